/-! a hearth's cells and what they hold -/
theorem xor_I {a b : Nat} (ha : a < 1024) (hb : b < 1024) : iI ↑a ^^^ iI ↑b = iI ↑(a ^^^ b) := by
  rw [← nI_i, ← nI_i, ← nI_i]
  unfold nI
  apply Int32.toBitVec_inj.mp
  rw [Int32.toBitVec_xor]
  apply BitVec.eq_of_toNat_eq
  have h1 : a ^^^ b < 2 ^ 10 := Nat.xor_lt_two_pow (by omega) (by omega)
  simp only [Int32.toBitVec_ofNat', BitVec.toNat_xor, BitVec.toNat_ofNat]
  rw [Nat.mod_eq_of_lt (by omega), Nat.mod_eq_of_lt (by omega), Nat.mod_eq_of_lt (by omega)]
theorem shr_I {a k : Nat} (ha : a < 1024) (hk : k < 32) : iI ↑a >>> (iI ↑k &&& 31) = iI ↑(a / 2 ^ k) := by
  rw [← nI_i, ← nI_i, ← nI_i]
  refine pk_shrN (by omega) _ k ?_
  have key : ∀ k : Nat, k < 32 → ((nI k &&& 31).toBitVec.smod 32).toNat = k := by decide +kernel
  exact key k hk
theorem xor_lt {a b : Nat} (ha : a < 1024) (hb : b < 1024) : a ^^^ b < 1024 := Nat.xor_lt_two_pow (n := 10) ha hb
theorem bk_of_div {lo h i : Nat} (q : (↑((lo ^^^ h) / 2 ^ i) : Int) = 0) : bk lo h ≤ i := by
  unfold bk
  rw [nb_le]
  have q1 : (lo ^^^ h) / 2 ^ i = 0 := by exact_mod_cast q
  rcases Nat.div_eq_zero_iff.mp q1 with c | c
  · exact absurd c (Nat.ne_of_gt (Nat.two_pow_pos i))
  · exact c
theorem bk_of_ndiv {lo h i : Nat} (q : (↑((lo ^^^ h) / 2 ^ i) : Int) ≠ 0) : i < bk lo h := by
  rcases Nat.lt_or_ge i (bk lo h) with c | c
  · exact c
  · exfalso
    apply q
    have h1 : (lo ^^^ h) < 2 ^ i := nb_le.mp c
    rw [Nat.div_eq_of_lt h1]; rfl
def szC (sf : Nat → Int32) (c : Nat → Nat) : Prop := (∀ b, b < 11 → sf b = iI ↑(c b)) ∧ psum c 11 ≤ 40
def szA (c : Nat → Nat) (z : Int) : Int := if 0 ≤ z then ↑(c z.toNat) else 0
theorem szA_nat (c : Nat → Nat) (b : Nat) : szA c ↑b = ↑(c b) := by unfold szA; rw [if_pos (by omega)]; rfl
theorem szA_neg (c : Nat → Nat) : szA c (-1) = 0 := by unfold szA; rw [if_neg (by omega)]
theorem psum_s (c : Nat → Nat) (b : Nat) : psum c (b + 1) = psum c b + c b := rfl
def isFst (c : Nat → Nat) (z : Int) : Prop := (z = -1 ∧ ∀ j, j < 11 → c j = 0) ∨ ∃ b : Nat, b < 11 ∧ z = (↑b : Int) ∧ 0 < c b ∧ ∀ j, j < b → c j = 0
def isLst (c : Nat → Nat) (z : Int) : Prop := (z = -1 ∧ ∀ j, j < 11 → c j = 0) ∨ ∃ b : Nat, b < 11 ∧ z = (↑b : Int) ∧ 0 < c b ∧ ∀ j, b < j → j < 11 → c j = 0
theorem isFst_at {c : Nat → Nat} {z : Int} {i : Nat} (h : isFst c z) (hi : i < 11) (h0 : ∀ j, j < i → c j = 0) (h1 : 0 < c i) : z = ↑i := by
  rcases h with ⟨-, h⟩ | ⟨b, h2, h3, h4, h5⟩
  · have := h i hi; omega
  · rcases Nat.lt_trichotomy b i with q | q | q
    · have := h0 b q; omega
    · rw [h3, q]
    · have := h5 i q; omega
theorem isFst_no {c : Nat → Nat} {z : Int} {i : Nat} (h : isFst c z) (hi : 11 ≤ i) (h0 : ∀ j, j < i → c j = 0) : z = -1 := by
  rcases h with ⟨h, -⟩ | ⟨b, h2, h3, h4, h5⟩
  · exact h
  · have := h0 b (by omega); omega
theorem isLst_at {c : Nat → Nat} {z : Int} {i : Nat} (h : isLst c z) (hi : i < 11) (h0 : ∀ j, i < j → j < 11 → c j = 0) (h1 : 0 < c i) : z = ↑i := by
  rcases h with ⟨-, h⟩ | ⟨b, h2, h3, h4, h5⟩
  · have := h i hi; omega
  · rcases Nat.lt_trichotomy b i with q | q | q
    · have := h5 i q hi; omega
    · rw [h3, q]
    · have := h0 b q h2; omega
theorem isLst_no {c : Nat → Nat} {z : Int} (h : isLst c z) (h0 : ∀ j, j < 11 → c j = 0) : z = -1 := by
  rcases h with ⟨h, -⟩ | ⟨b, h2, h3, h4, h5⟩
  · exact h
  · have := h0 b (by omega); omega
theorem lt_next {c : Nat → Nat} {i : Nat} (h : ∀ j, j < i → c j = 0) (h1 : c i = 0) : ∀ j, j < i + 1 → c j = 0 := by
  intro j hj
  rcases Nat.lt_or_ge j i with q | q
  · exact h j q
  · rw [show j = i by omega]; exact h1
theorem gt_next {c : Nat → Nat} {i : Nat} (h : ∀ j, i < j → j < 11 → c j = 0) (h1 : c i = 0) : ∀ j, i - 1 < j → j < 11 → c j = 0 := by
  intro j hj h11
  rcases Nat.lt_or_ge i j with q | q
  · exact h j q h11
  · rw [show j = i by omega]; exact h1
/-- the embers' cells: how many were lit, and the heat of each -/
def embIs (el : Int32) (fh : Nat → Int32) (n : Nat) (Hh : Nat → Nat) : Prop := el = iI ↑n ∧ n ≤ 40 ∧ ∀ i, i < n → fh i = iI ↑(Hh i) ∧ Hh i < 1024
def ka (lo : Nat) (Hh : Nat → Nat) : Nat → Nat := fun y => bk lo (Hh y)
/-- a hearth's cells: its low, its row, the sizes of its buckets -/
def heaIs (lw sz : Int32) (f sf : Nat → Int32) (lo n : Nat) (Hh : Nat → Nat) (L : List Nat) : Prop := lw = iI ↑lo ∧ lo < 1024 ∧ rowIs sz f L ∧ szC sf (cnt (ka lo Hh) L) ∧ ∀ x ∈ L, x < n
def insA (κ : Nat → Nat) (L B : List Nat) : List Nat := B.foldl (ins κ) L
def bump (fm : Nat → Int32) (x : Nat) : Nat → Int32 := upd fm x (fm x + 1)
def mvA (nt : Int) (fm : Nat → Int32) (B : List Nat) : Nat → Int32 := if nt = 0 then fm else B.foldl bump fm
theorem div_rg {d i : Nat} (h : d < 1024) : -2147483648 ≤ (↑(d / 2 ^ i) : Int) ∧ (↑(d / 2 ^ i) : Int) < 2147483648 := by
  have : d / 2 ^ i ≤ d := Nat.div_le_self _ _
  generalize d / 2 ^ i = q at this ⊢
  omega
