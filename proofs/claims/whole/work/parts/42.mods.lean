def hdI (lo : Nat → Nat) (Hh : Nat → Nat) (Ls : Nat → List Nat) (gk : Nat → Int32) (d : Int64) : Nat → Int64
  | 0 => d
  | k + 1 => hdF (lo k) Hh (Ls k) (gk k) (hdI lo Hh Ls gk d k)
