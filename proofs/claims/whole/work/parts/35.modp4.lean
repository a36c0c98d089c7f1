theorem MS_rkS {el cg : Int32} {fh fa fc gl : Nat → Int32} {n h i G : Nat} {Hh : Nat → Nat} {av : Nat → Int} {lo : Nat → Nat} {Ls : Nat → List Nat}
    (hs : MS el fh fa fc gl cg n Hh (va_up (rkV av (lo h) Hh (Ls h) i) ((rkL (va_up lo h (rkI (lo h) Hh (Ls h) i).1 h) Hh (va_up Ls h (rkI (lo h) Hh (Ls h) i).2 h)).headD 0) (-1)) (va_up (va_up lo h (rkI (lo h) Hh (Ls h) i).1) h (rkLo (va_up lo h (rkI (lo h) Hh (Ls h) i).1 h) Hh (va_up Ls h (rkI (lo h) Hh (Ls h) i).2 h))) (va_up (va_up Ls h (rkI (lo h) Hh (Ls h) i).2) h (rkL (va_up lo h (rkI (lo h) Hh (Ls h) i).1 h) Hh (va_up Ls h (rkI (lo h) Hh (Ls h) i).2 h)).tail) (G + 40 * i + 40)) :
    MS el fh fa fc gl cg n Hh (rkV av (lo h) Hh (Ls h) (i + 1)) (va_up lo h (rkI (lo h) Hh (Ls h) (i + 1)).1) (va_up Ls h (rkI (lo h) Hh (Ls h) (i + 1)).2) (G + 40 * (i + 1)) := by
  rw [va_up_self, va_up_self, bx_uu, bx_uu] at hs
  exact hs
