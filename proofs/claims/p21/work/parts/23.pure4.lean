/-! what is told; what would be; the checksum -/
def abV (lo : Nat) (Hh : Nat → Nat) (L : List Nat) (rk : Int32) (w : Int) : Int32 := if w = 0 then iI ↑L.length else if w = 1 then iI ↑lo else if w = 2 then iI (fstL lo Hh L) else if w = 3 then iI (lstL lo Hh L) else if w = 4 then rk else iI (maxL Hh L)
theorem abV_n {lo : Nat} {Hh : Nat → Nat} {L : List Nat} {rk : Int32} {w : Int} : (w = 0 → abV lo Hh L rk w = iI ↑L.length) ∧ (w = 1 → abV lo Hh L rk w = iI ↑lo) ∧ (w = 2 → abV lo Hh L rk w = iI (fstL lo Hh L)) ∧ (w = 3 → abV lo Hh L rk w = iI (lstL lo Hh L)) ∧ (w = 4 → abV lo Hh L rk w = rk) ∧ (w = 5 → abV lo Hh L rk w = iI (maxL Hh L)) := by
  refine ⟨?_, ?_, ?_, ?_, ?_, ?_⟩ <;> (intro h; subst h; rfl)
def bkA (a : Int) (lo0 lo1 h : Nat) : Int := if a = 0 then ↑(bk lo0 h) else if a = 1 then ↑(bk lo1 h) else -1
def toV (h : Nat) (a b : Int) (m : Int32) (k w : Int) : Int32 := if w = 0 then iI ↑h else if w = 1 then iI a else if w = 2 then iI b else if w = 3 then m else iI k
theorem toV_n {h : Nat} {a b : Int} {m : Int32} {k w : Int} : (w = 0 → toV h a b m k w = iI ↑h) ∧ (w = 1 → toV h a b m k w = iI a) ∧ (w = 2 → toV h a b m k w = iI b) ∧ (w = 3 → toV h a b m k w = m) ∧ (w = 4 → toV h a b m k w = iI k) := by
  refine ⟨?_, ?_, ?_, ?_, ?_⟩ <;> (intro h; subst h; rfl)
def coV (n t : Nat) (m k q : Int32) (w : Int) : Int32 := if w = 0 then iI ↑n else if w = 1 then iI ↑t else if w = 2 then m else if w = 3 then k else q
theorem coV_n {n t : Nat} {m k q : Int32} {w : Int} : (w = 0 → coV n t m k q w = iI ↑n) ∧ (w = 1 → coV n t m k q w = iI ↑t) ∧ (w = 2 → coV n t m k q w = m) ∧ (w = 3 → coV n t m k q w = k) ∧ (w = 4 → coV n t m k q w = q) := by
  refine ⟨?_, ?_, ?_, ?_, ?_⟩ <;> (intro h; subst h; rfl)
def jn (d : Int64) (x : Int32) : Int64 := d * 31 + x.toInt64
def dgN (f : Nat → Int32) (d : Int64) : Nat → Int64
  | 0 => d
  | k + 1 => jn (dgN f d k) (f k)
def dgM (F : Nat → Nat → Int32) (m : Nat → Nat) (d : Int64) : Nat → Int64
  | 0 => d
  | k + 1 => dgN (F k) (dgM F m d k) (m k)
def bkV (cn : Nat → Nat) (L : List Nat) (b j : Nat) : Int32 := if j = 0 then iI ↑(cn b) else iI ↑(L.getD (psum cn b + (j - 1)) 0)
/-- the one that had best go out: so far, and its moves -/
def advM (lo : Nat) (Hh : Nat → Nat) (L : List Nat) (x : Nat) : Nat := (rkBs lo Hh (del L x) (del L x).length).length
def advI (lo : Nat) (Hh : Nat → Nat) (L : List Nat) : Nat → Int × Nat
  | 0 => (-1, 0)
  | i + 1 => if i ∈ L then (if (advI lo Hh L i).1 = -1 ∨ advM lo Hh L i < (advI lo Hh L i).2 then (↑i, advM lo Hh L i) else advI lo Hh L i) else advI lo Hh L i
theorem heaOk_del {lo : Nat} {Hh : Nat → Nat} {L : List Nat} (h : heaOk lo Hh L) (x : Nat) : heaOk lo Hh (del L x) :=
  ⟨del_srt h.1 x, del_nodup h.2.1 x, fun y hy => h.2.2 y ((del_sub L x).subset hy)⟩
theorem rkB_len (lo : Nat) (Hh : Nat → Nat) (L : List Nat) : (rkB lo Hh L).length ≤ L.length := by
  unfold rkB
  by_cases c : rkF lo Hh L = 0
  · rw [if_pos c]; simp
  · rw [if_neg c, List.length_take]; omega
theorem rkBs_len {lo : Nat} {Hh : Nat → Nat} {L : List Nat} (h : heaOk lo Hh L) (hlo : lo < 1024) : ∀ k, k ≤ L.length → (rkBs lo Hh L k).length ≤ k * L.length
  | 0, _ => by simp [rkBs]
  | k + 1, hk => by
    have h1 := rkBs_len h hlo k (by omega)
    have h2 := rkB_len (rkI lo Hh L k).1 Hh (rkI lo Hh L k).2
    have h3 := (rkI_ok h hlo k (by omega)).2.2
    show (rkBs lo Hh L k ++ rkB _ Hh _).length ≤ _
    rw [List.length_append, Nat.succ_mul]
    omega
theorem advM_len {lo : Nat} {Hh : Nat → Nat} {L : List Nat} (h : heaOk lo Hh L) (hlo : lo < 1024) (hl : L.length ≤ 40) (x : Nat) : advM lo Hh L x ≤ 1600 := by
  have h1 := rkBs_len (heaOk_del h x) hlo (del L x).length (Nat.le_refl _)
  have h2 : (del L x).length ≤ 40 := Nat.le_trans (del_sub L x).length_le hl
  have h3 : (del L x).length * (del L x).length ≤ 40 * 40 := Nat.mul_le_mul h2 h2
  unfold advM
  omega
theorem advI_rg {lo : Nat} {Hh : Nat → Nat} {L : List Nat} (h : heaOk lo Hh L) (hlo : lo < 1024) (hl : L.length ≤ 40) : ∀ i : Nat, -1 ≤ (advI lo Hh L i).1 ∧ (advI lo Hh L i).1 ≤ (↑i : Int) ∧ (advI lo Hh L i).2 ≤ 1600
  | 0 => ⟨Int.le_refl (-1), (by decide : (-1 : Int) ≤ 0), Nat.zero_le _⟩
  | i + 1 => by
    obtain ⟨a1, a2, a3⟩ := advI_rg h hlo hl i
    have hm := advM_len h hlo hl i
    unfold advI
    by_cases c : i ∈ L
    · rw [if_pos c]
      by_cases d : (advI lo Hh L i).1 = -1 ∨ advM lo Hh L i < (advI lo Hh L i).2
      · rw [if_pos d]
        exact ⟨by show (-1 : Int) ≤ ↑i; omega, by show (↑i : Int) ≤ ↑(i + 1); omega, hm⟩
      · rw [if_neg d]
        exact ⟨a1, by omega, a3⟩
    · rw [if_neg c]
      exact ⟨a1, by omega, a3⟩
theorem advI_out {lo : Nat} {Hh : Nat → Nat} {L : List Nat} {i : Nat} (c : i ∉ L) : advI lo Hh L (i + 1) = advI lo Hh L i := if_neg c
theorem advI_keep {lo : Nat} {Hh : Nat → Nat} {L : List Nat} {i : Nat} (c : i ∈ L) (d : ¬ ((advI lo Hh L i).1 = -1 ∨ advM lo Hh L i < (advI lo Hh L i).2)) : advI lo Hh L (i + 1) = advI lo Hh L i := (if_pos c).trans (if_neg d)
theorem advI_new {lo : Nat} {Hh : Nat → Nat} {L : List Nat} {i : Nat} (c : i ∈ L) (d : (advI lo Hh L i).1 = -1 ∨ advM lo Hh L i < (advI lo Hh L i).2) : advI lo Hh L (i + 1) = (↑i, advM lo Hh L i) := (if_pos c).trans (if_pos d)
def abF (lo : Nat) (Hh : Nat → Nat) (L : List Nat) (rk : Int32) (j : Nat) : Int32 := abV lo Hh L rk ↑j
def toF (Hh : Nat → Nat) (av : Nat → Int) (lo0 lo1 : Nat) (fm : Nat → Int32) (rv : Nat → Int) (e j : Nat) : Int32 := toV (Hh e) (av e) (bkA (av e) lo0 lo1 (Hh e)) (fm e) (rv e) ↑j
def coF (n t : Nat) (m k q : Int32) (j : Nat) : Int32 := coV n t m k q ↑j
def bmF (cn : Nat → Nat) (b : Nat) : Nat := cn b + 1
def hdF (lo : Nat) (Hh : Nat → Nat) (L : List Nat) (rk : Int32) (d : Int64) : Int64 := dgM (bkV (cnt (ka lo Hh) L) L) (bmF (cnt (ka lo Hh) L)) (dgN (abF lo Hh L rk) d 6) 11
theorem hdF_of {lo : Nat} {Hh : Nat → Nat} {L : List Nat} {rk : Int32} {d x : Int64} {i : Nat} (h : x = dgM (bkV (cnt (ka lo Hh) L) L) (bmF (cnt (ka lo Hh) L)) (dgN (abF lo Hh L rk) d 6) i) (hi : i = 11) : x = hdF lo Hh L rk d := by rw [h, hi]; rfl
theorem dgM_s (F : Nat → Nat → Int32) (m : Nat → Nat) (d : Int64) (k : Nat) : dgM F m d (k + 1) = dgN (F k) (dgM F m d k) (m k) := rfl
theorem dgN_s (f : Nat → Int32) (d : Int64) (k : Nat) : dgN f d (k + 1) = jn (dgN f d k) (f k) := rfl
def diF (n lo0 lo1 : Nat) (Hh : Nat → Nat) (L0 L1 : List Nat) (av rv : Nat → Int) (fm : Nat → Int32) (m k0 k1 k q : Int32) : Int64 := dgM (toF Hh av lo0 lo1 fm rv) (fun _ => 5) (hdF lo1 Hh L1 k1 (hdF lo0 Hh L0 k0 (dgN (coF n (L0.length + L1.length) m k q) 1489 5))) n
