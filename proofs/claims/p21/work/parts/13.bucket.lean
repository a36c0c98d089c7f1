/-! buckets, rows sorted by them, what putting and raking do: in whole numbers -/
def nb (x : Nat) : Nat := if x = 0 then 0 else x.log2 + 1
theorem nb_le {x k : Nat} : nb x ≤ k ↔ x < 2 ^ k := by
  unfold nb
  by_cases h : x = 0
  · subst h
    simp [Nat.two_pow_pos]
  · rw [if_neg h]
    constructor
    · intro q
      exact (Nat.log2_lt h).mp (by omega)
    · intro q
      have := (Nat.log2_lt h).mpr q
      omega
def bk (lo h : Nat) : Nat := nb (lo ^^^ h)
theorem bk_le {lo h k : Nat} : bk lo h ≤ k ↔ lo / 2 ^ k = h / 2 ^ k := by
  unfold bk
  rw [nb_le]
  constructor
  · intro q
    apply Nat.eq_of_testBit_eq
    intro i
    rw [Nat.testBit_div_two_pow, Nat.testBit_div_two_pow]
    have h1 : (lo ^^^ h).testBit (k + i) = false := Nat.testBit_lt_two_pow (Nat.lt_of_lt_of_le q (Nat.pow_le_pow_right (by omega) (by omega)))
    rw [Nat.testBit_xor] at h1
    have h2 : lo.testBit (k + i) = h.testBit (k + i) := by
      revert h1
      cases lo.testBit (k + i) <;> cases h.testBit (k + i) <;> simp
    rw [show i + k = k + i by omega]
    exact h2
  · intro q
    apply Nat.lt_pow_two_of_testBit
    intro i hi
    rw [Nat.testBit_xor]
    have h1 : (lo / 2 ^ k).testBit (i - k) = (h / 2 ^ k).testBit (i - k) := by rw [q]
    rw [Nat.testBit_div_two_pow, Nat.testBit_div_two_pow, show i - k + k = i by omega] at h1
    rw [h1]
    simp
theorem bk_le10 {lo h : Nat} (h1 : lo < 1024) (h2 : h < 1024) : bk lo h ≤ 10 := by
  rw [bk_le, Nat.div_eq_of_lt h1, Nat.div_eq_of_lt h2]
theorem bk_0 {lo h : Nat} : bk lo h = 0 ↔ lo = h := by
  have := bk_le (lo := lo) (h := h) (k := 0)
  simp only [Nat.pow_zero, Nat.div_one] at this
  omega
/-- of two heats not below the low, the one in the nearer bucket is less -/
theorem bk_lt {lo g h : Nat} (hh : lo ≤ h) (q : bk lo g < bk lo h) : g < h := by
  have h1 := (bk_le (lo := lo) (h := g) (k := bk lo g)).mp (Nat.le_refl _)
  have h2 : ¬ lo / 2 ^ bk lo g = h / 2 ^ bk lo g := fun e => by
    have := bk_le.mpr e
    omega
  have h3 : lo / 2 ^ bk lo g ≤ h / 2 ^ bk lo g := Nat.div_le_div_right hh
  rcases Nat.lt_or_ge g h with c | c
  · exact c
  · have := Nat.div_le_div_right (c := 2 ^ bk lo g) c
    omega
/-- the low rises to a heat of bucket f: what lies behind stays in its bucket -/
theorem bk_stay {lo lo2 h : Nat} (q : bk lo lo2 < bk lo h) : bk lo2 h = bk lo h := by
  have key : ∀ k, bk lo lo2 ≤ k → (bk lo2 h ≤ k ↔ bk lo h ≤ k) := by
    intro k hk
    rw [bk_le] at hk
    rw [bk_le, bk_le, hk]
  have h1 := (key (bk lo h) (by omega)).mpr (Nat.le_refl _)
  have h2 := key (bk lo h - 1) (by omega)
  omega
/-- .. and what lies in bucket f comes nearer -/
theorem bk_near {lo lo2 h : Nat} (h1 : lo ≤ lo2) (h2 : lo ≤ h) (e : bk lo lo2 = bk lo h) (h0 : 0 < bk lo h) : bk lo2 h < bk lo h := by
  obtain ⟨k, hk⟩ : ∃ k, bk lo h = k + 1 := ⟨bk lo h - 1, by omega⟩
  rw [hk] at e h0 ⊢
  have a1 := (bk_le (lo := lo) (h := lo2) (k := k + 1)).mp (by omega)
  have a2 := (bk_le (lo := lo) (h := h) (k := k + 1)).mp (by omega)
  have b1 : ¬ lo / 2 ^ k = lo2 / 2 ^ k := fun q => by have := bk_le.mpr q; omega
  have b2 : ¬ lo / 2 ^ k = h / 2 ^ k := fun q => by have := bk_le.mpr q; omega
  have c1 : lo / 2 ^ k ≤ lo2 / 2 ^ k := Nat.div_le_div_right h1
  have c2 : lo / 2 ^ k ≤ h / 2 ^ k := Nat.div_le_div_right h2
  rw [Nat.pow_succ, ← Nat.div_div_eq_div_mul, ← Nat.div_div_eq_div_mul] at a1 a2
  have : lo2 / 2 ^ k = h / 2 ^ k := by omega
  have := bk_le.mpr this
  omega
/-! the least heat of a row -/
def minL (Hh : Nat → Nat) (L : List Nat) : Nat := L.foldl (fun a x => min a (Hh x)) 1023
theorem minL_take (Hh : Nat → Nat) (L : List Nat) {i : Nat} (h : i < L.length) : minL Hh (L.take (i + 1)) = min (minL Hh (L.take i)) (Hh (L.getD i 0)) := by
  unfold minL
  rw [List.take_add_one, List.getElem?_eq_getElem h, Option.toList_some, List.foldl_append, List.getD_eq_getElem?_getD, List.getElem?_eq_getElem h]
  rfl
theorem minF_spec (Hh : Nat → Nat) : ∀ (L : List Nat) (a : Nat), (L.foldl (fun a x => min a (Hh x)) a ≤ a) ∧ (∀ x ∈ L, L.foldl (fun a x => min a (Hh x)) a ≤ Hh x) ∧ (L.foldl (fun a x => min a (Hh x)) a = a ∨ ∃ x ∈ L, Hh x = L.foldl (fun a x => min a (Hh x)) a)
  | [], a => ⟨Nat.le_refl _, (by intro x hx; cases hx), Or.inl rfl⟩
  | y :: L, a => by
    obtain ⟨h1, h2, h3⟩ := minF_spec Hh L (min a (Hh y))
    rw [List.foldl_cons]
    refine ⟨by omega, fun x hx => ?_, ?_⟩
    · rcases List.mem_cons.mp hx with rfl | hx
      · omega
      · exact h2 x hx
    · rcases h3 with h3 | ⟨x, hx, h3⟩
      · rcases Nat.le_total a (Hh y) with c | c
        · exact Or.inl (by omega)
        · exact Or.inr ⟨y, List.mem_cons_self, by omega⟩
      · exact Or.inr ⟨x, List.mem_cons_of_mem _ hx, h3⟩
theorem minL_top (Hh : Nat → Nat) (L : List Nat) : minL Hh L ≤ 1023 := (minF_spec Hh L 1023).1
theorem minL_le {Hh : Nat → Nat} {L : List Nat} {x : Nat} (h : x ∈ L) : minL Hh L ≤ Hh x := (minF_spec Hh L 1023).2.1 x h
theorem minL_of (Hh : Nat → Nat) (L : List Nat) : minL Hh L = 1023 ∨ ∃ x ∈ L, Hh x = minL Hh L := (minF_spec Hh L 1023).2.2
/-- the least is known by what it is -/
theorem minL_eq {Hh : Nat → Nat} {L : List Nat} {m : Nat} (h1 : m ≤ 1023) (h2 : ∀ x ∈ L, m ≤ Hh x) (h3 : m = 1023 ∨ ∃ x ∈ L, Hh x = m) : minL Hh L = m := by
  rcases minL_of Hh L with c | ⟨x, hx, c⟩
  · rcases h3 with d | ⟨y, hy, d⟩
    · omega
    · have := minL_le (Hh := Hh) hy
      omega
  · have a1 := h2 x hx
    rcases h3 with d | ⟨y, hy, d⟩
    · have := minL_top Hh L
      omega
    · have := minL_le (Hh := Hh) hy
      omega
theorem minL_in {Hh : Nat → Nat} {L : List Nat} (hne : L ≠ []) (hb : ∀ x ∈ L, Hh x < 1024) : ∃ x ∈ L, Hh x = minL Hh L := by
  rcases minL_of Hh L with c | c
  · cases L with
    | nil => exact absurd rfl hne
    | cons y T =>
      have h1 := hb y List.mem_cons_self
      have h2 := minL_le (Hh := Hh) (L := y :: T) (x := y) List.mem_cons_self
      exact ⟨y, List.mem_cons_self, by omega⟩
  · exact c
/-! sums of counts -/
def psum (c : Nat → Nat) : Nat → Nat
  | 0 => 0
  | b + 1 => psum c b + c b
theorem psum_mono (c : Nat → Nat) {a b : Nat} (h : a ≤ b) : psum c a ≤ psum c b := by
  induction b with
  | zero => rw [Nat.le_zero.mp h]; exact Nat.le_refl _
  | succ b ih =>
    rcases Nat.lt_or_ge a (b + 1) with q | q
    · have := ih (by omega)
      show _ ≤ psum c b + c b
      omega
    · rw [show a = b + 1 by omega]; exact Nat.le_refl _
theorem psum_at (c : Nat → Nat) {a b : Nat} (h : a < b) : c a ≤ psum c b := by
  have := psum_mono c (show a + 1 ≤ b from h)
  have e : psum c (a + 1) = psum c a + c a := rfl
  omega
def cnt (κ : Nat → Nat) (L : List Nat) (b : Nat) : Nat := L.countP (fun x => κ x == b)
theorem psum_cnt (κ : Nat → Nat) (L : List Nat) (b : Nat) : psum (cnt κ L) b = L.countP (fun x => decide (κ x < b)) := by
  induction b with
  | zero => simp [psum]
  | succ b ih =>
    show psum (cnt κ L) b + cnt κ L b = _
    rw [ih]
    unfold cnt
    clear ih
    induction L with
    | nil => rfl
    | cons y T ih2 =>
      rw [List.countP_cons, List.countP_cons, List.countP_cons]
      by_cases c1 : κ y < b
      · have c2 : ¬ κ y = b := by omega
        have c3 : κ y < b + 1 := by omega
        simp only [c1, c2, c3, decide_true, beq_iff_eq, if_true, if_false]
        omega
      · by_cases c2 : κ y = b
        · have c3 : κ y < b + 1 := by omega
          simp only [c1, c2, decide_false, beq_iff_eq, if_true, Bool.false_eq_true, if_false, Nat.lt_succ_self, decide_true]
          simp
          omega
        · have c3 : ¬ κ y < b + 1 := by omega
          simp only [c1, c2, c3, decide_false, beq_iff_eq, if_false, Bool.false_eq_true]
          omega
theorem psum_all {κ : Nat → Nat} {L : List Nat} {b : Nat} (h : ∀ x ∈ L, κ x < b) : psum (cnt κ L) b = L.length := by
  rw [psum_cnt, List.countP_eq_length]
  intro x hx
  simp [h x hx]
theorem srt_take {κ : Nat → Nat} {L : List Nat} (b : Nat) (h : L.Pairwise (fun x y => κ x ≤ κ y)) : L.take (L.countP (fun x => decide (κ x < b))) = L.filter (fun x => decide (κ x < b)) ∧ L.drop (L.countP (fun x => decide (κ x < b))) = L.filter (fun x => !decide (κ x < b)) := by
  induction L with
  | nil => exact ⟨rfl, rfl⟩
  | cons y T ih =>
    obtain ⟨h1, h2⟩ := List.pairwise_cons.mp h
    obtain ⟨i1, i2⟩ := ih h2
    by_cases c : κ y < b
    · have e : (y :: T).countP (fun x => decide (κ x < b)) = T.countP (fun x => decide (κ x < b)) + 1 := by
        rw [List.countP_cons]; simp [c]
      rw [e, List.take_succ_cons, List.drop_succ_cons, i1, i2]
      simp [c]
    · have e : (y :: T).countP (fun x => decide (κ x < b)) = 0 := by
        rw [List.countP_eq_zero]
        intro z hz
        rcases List.mem_cons.mp hz with rfl | hz
        · simp [c]
        · have := h1 z hz
          simp; omega
      have e2 : (y :: T).filter (fun x => decide (κ x < b)) = [] := by
        rw [List.filter_eq_nil_iff]
        exact List.countP_eq_zero.mp e
      have e3 : (y :: T).filter (fun x => !decide (κ x < b)) = y :: T := by
        rw [List.filter_eq_self]
        intro z hz
        have := List.countP_eq_zero.mp e z hz
        simpa using this
      rw [e, e2, e3]
      exact ⟨rfl, rfl⟩
/-- an ember comes to the end of its bucket -/
def ins (κ : Nat → Nat) (L : List Nat) (x : Nat) : List Nat := L.take (psum (cnt κ L) (κ x + 1)) ++ x :: L.drop (psum (cnt κ L) (κ x + 1))
def srt (κ : Nat → Nat) (L : List Nat) : Prop := L.Pairwise (fun x y => κ x ≤ κ y)
theorem ins_eq {κ : Nat → Nat} {L : List Nat} (h : srt κ L) (x : Nat) : ins κ L x = L.filter (fun y => decide (κ y < κ x + 1)) ++ x :: L.filter (fun y => !decide (κ y < κ x + 1)) := by
  unfold ins
  rw [psum_cnt, (srt_take _ h).1, (srt_take _ h).2]
theorem ins_srt {κ : Nat → Nat} {L : List Nat} (h : srt κ L) (x : Nat) : srt κ (ins κ L x) := by
  rw [ins_eq h]
  unfold srt at h ⊢
  rw [List.pairwise_append]
  refine ⟨h.filter _, List.pairwise_cons.mpr ⟨fun y hy => ?_, h.filter _⟩, fun a ha b hb => ?_⟩
  · have := (List.mem_filter.mp hy).2
    simp at this
    omega
  · have h1 := (List.mem_filter.mp ha).2
    simp at h1
    rcases List.mem_cons.mp hb with rfl | hb
    · omega
    · have h2 := (List.mem_filter.mp hb).2
      simp at h2
      omega
theorem ins_perm (κ : Nat → Nat) (L : List Nat) (x : Nat) : (ins κ L x).Perm (x :: L) := by
  unfold ins
  refine List.perm_middle.trans (List.Perm.cons x ?_)
  rw [List.take_append_drop]
theorem ins_mem {κ : Nat → Nat} {L : List Nat} {x y : Nat} : y ∈ ins κ L x ↔ y = x ∨ y ∈ L := by
  rw [(ins_perm κ L x).mem_iff, List.mem_cons]
theorem ins_len (κ : Nat → Nat) (L : List Nat) (x : Nat) : (ins κ L x).length = L.length + 1 := (ins_perm κ L x).length_eq
theorem ins_nodup {κ : Nat → Nat} {L : List Nat} {x : Nat} (h : L.Nodup) (hx : x ∉ L) : (ins κ L x).Nodup := (ins_perm κ L x).nodup_iff.mpr (List.nodup_cons.mpr ⟨hx, h⟩)
theorem cnt_ins (κ : Nat → Nat) (L : List Nat) (x b : Nat) : cnt κ (ins κ L x) b = cnt κ L b + if κ x = b then 1 else 0 := by
  unfold cnt
  rw [(ins_perm κ L x).countP_eq, List.countP_cons]
  simp
/-- taking one out -/
def del (L : List Nat) (x : Nat) : List Nat := L.take (L.idxOf x) ++ L.drop (L.idxOf x + 1)
theorem del_perm {L : List Nat} {x : Nat} (h : x ∈ L) : L.Perm (x :: del L x) := by
  have hl := List.idxOf_lt_length_of_mem h
  have e : L = L.take (L.idxOf x) ++ x :: L.drop (L.idxOf x + 1) := by
    have h1 : L.drop (L.idxOf x) = x :: L.drop (L.idxOf x + 1) := by
      rw [List.drop_eq_getElem_cons hl, List.getElem_idxOf hl]
    rw [← h1, List.take_append_drop]
  unfold del
  generalize hk : L.idxOf x = k at e ⊢
  refine (List.Perm.of_eq e).trans ?_
  exact List.perm_middle
theorem del_sub (L : List Nat) (x : Nat) : (del L x).Sublist L := by
  unfold del
  have h1 : (L.drop (L.idxOf x + 1)).Sublist (L.drop (L.idxOf x)) := by
    rw [← List.drop_drop]
    exact List.drop_sublist _ _
  have h2 := (List.Sublist.refl (L.take (L.idxOf x))).append h1
  rwa [List.take_append_drop] at h2
theorem del_srt {κ : Nat → Nat} {L : List Nat} (h : srt κ L) (x : Nat) : srt κ (del L x) := List.Pairwise.sublist (del_sub L x) h
theorem del_nodup {L : List Nat} (h : L.Nodup) (x : Nat) : (del L x).Nodup := h.sublist (del_sub L x)
theorem del_len {L : List Nat} {x : Nat} (h : x ∈ L) : (del L x).length + 1 = L.length := by
  have := (del_perm h).length_eq
  simp at this
  omega
theorem cnt_del (κ : Nat → Nat) {L : List Nat} {x : Nat} (h : x ∈ L) (b : Nat) : cnt κ L b = cnt κ (del L x) b + if κ x = b then 1 else 0 := by
  unfold cnt
  rw [(del_perm h).countP_eq, List.countP_cons]
  simp
theorem del_mem {L : List Nat} {x : Nat} (hn : L.Nodup) (h : x ∈ L) {y : Nat} : y ∈ del L x ↔ y ∈ L ∧ y ≠ x := by
  have h1 := (del_perm h).mem_iff (a := y)
  have h2 := ((del_perm h).nodup_iff.mp hn)
  obtain ⟨h3, -⟩ := List.nodup_cons.mp h2
  rw [h1, List.mem_cons]
  constructor
  · intro q
    exact ⟨Or.inr q, fun e => h3 (e ▸ q)⟩
  · rintro ⟨q | q, e⟩
    · exact absurd q e
    · exact q
theorem del_head (x : Nat) (T : List Nat) : del (x :: T) x = T := by
  unfold del
  simp
