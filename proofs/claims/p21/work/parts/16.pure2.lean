/-! putting, taking out, spreading, raking: over rows and counts -/
theorem cnt_psum_le (κ : Nat → Nat) (L : List Nat) (b : Nat) : psum (cnt κ L) b ≤ L.length := by
  rw [psum_cnt]; exact List.countP_le_length
theorem szC_of {sf : Nat → Int32} {κ : Nat → Nat} {L : List Nat} (hl : L.length ≤ 40) (h : ∀ b, b < 11 → sf b = iI ↑(cnt κ L b)) : szC sf (cnt κ L) := ⟨h, Nat.le_trans (cnt_psum_le κ L 11) hl⟩
theorem szC_ins {sf sf2 : Nat → Int32} {κ : Nat → Nat} {L : List Nat} {x : Nat} (h : szC sf (cnt κ L)) (hl : L.length < 40) (e : sf2 = upd sf (κ x) (iI (↑(cnt κ L (κ x)) + 1))) : szC sf2 (cnt κ (ins κ L x)) := by
  refine szC_of (by rw [ins_len]; omega) (fun b hb => ?_)
  rw [cnt_ins, e]
  by_cases q : b = κ x
  · subst q
    rw [upd_s, if_pos rfl]; rfl
  · rw [upd_n _ _ q, if_neg (fun z => q z.symm), h.1 b hb]; rfl
theorem szC_del {sf sf2 : Nat → Int32} {κ : Nat → Nat} {L : List Nat} {x : Nat} (h : szC sf (cnt κ L)) (hl : L.length ≤ 40) (hx : x ∈ L) (e : sf2 = upd sf (κ x) (iI (↑(cnt κ L (κ x)) + (-1)))) : szC sf2 (cnt κ (del L x)) := by
  have h1 := del_len hx
  refine szC_of (by omega) (fun b hb => ?_)
  have h2 := cnt_del κ hx b
  rw [e]
  by_cases q : b = κ x
  · subst q
    rw [if_pos rfl] at h2
    rw [upd_s]
    exact congrArg iI (by omega)
  · rw [if_neg (fun z => q z.symm)] at h2
    rw [upd_n _ _ q, h.1 b hb]
    exact congrArg iI (by omega)
theorem insA_take (κ : Nat → Nat) (L B : List Nat) {i : Nat} (h : i < B.length) : insA κ L (B.take (i + 1)) = ins κ (insA κ L (B.take i)) (B.getD i 0) := by
  unfold insA
  rw [List.take_add_one, List.getElem?_eq_getElem h, Option.toList_some, List.foldl_append, List.getD_eq_getElem?_getD, List.getElem?_eq_getElem h]
  rfl
theorem insA_len (κ : Nat → Nat) (B : List Nat) : ∀ L : List Nat, (insA κ L B).length = L.length + B.length := by
  induction B with
  | nil => intro L; rfl
  | cons y T ih =>
    intro L
    show (insA κ (ins κ L y) T).length = _
    rw [ih, ins_len, List.length_cons]
    omega
theorem insA_mem {κ : Nat → Nat} {B : List Nat} : ∀ {L : List Nat} {y : Nat}, y ∈ insA κ L B ↔ y ∈ L ∨ y ∈ B := by
  induction B with
  | nil => intro L y; simp [insA]
  | cons x T ih =>
    intro L y
    show y ∈ insA κ (ins κ L x) T ↔ _
    rw [ih, ins_mem, List.mem_cons]
    constructor
    · rintro ((h | h) | h)
      · exact Or.inr (Or.inl h)
      · exact Or.inl h
      · exact Or.inr (Or.inr h)
    · rintro (h | h | h)
      · exact Or.inl (Or.inr h)
      · exact Or.inl (Or.inl h)
      · exact Or.inr h
theorem insA_srt {κ : Nat → Nat} (B : List Nat) : ∀ {L : List Nat}, srt κ L → srt κ (insA κ L B) := by
  induction B with
  | nil => intro L h; exact h
  | cons x T ih =>
    intro L h
    exact ih (ins_srt h x)
theorem insA_perm (κ : Nat → Nat) (B : List Nat) : ∀ L : List Nat, (insA κ L B).Perm (L ++ B) := by
  induction B with
  | nil => intro L; rw [List.append_nil]; exact List.Perm.refl _
  | cons x T ih =>
    intro L
    refine (ih (ins κ L x)).trans ?_
    refine ((ins_perm κ L x).append_right T).trans ?_
    exact List.perm_middle.symm
theorem heaIs_ins {lw sz sz2 : Int32} {f f2 sf sf2 : Nat → Int32} {lo n x : Nat} {Hh : Nat → Nat} {L : List Nat} (h : heaIs lw sz f sf lo n Hh L) (hl : L.length < 40) (hx : x < n) (h1 : rowIs sz2 f2 (ins (ka lo Hh) L x)) (h2 : sf2 = upd sf (bk lo (Hh x)) (iI (↑(cnt (ka lo Hh) L (bk lo (Hh x))) + 1))) : heaIs lw sz2 f2 sf2 lo n Hh (ins (ka lo Hh) L x) := by
  obtain ⟨a1, a2, a3, a4, a5⟩ := h
  refine ⟨a1, a2, h1, szC_ins a4 hl h2, fun y hy => ?_⟩
  rcases ins_mem.mp hy with rfl | hy
  · exact hx
  · exact a5 y hy
theorem heaIs_del {lw sz sz2 : Int32} {f f2 sf sf2 : Nat → Int32} {lo n x : Nat} {Hh : Nat → Nat} {L : List Nat} (h : heaIs lw sz f sf lo n Hh L) (hx : x ∈ L) (h1 : rowIs sz2 f2 (del L x)) (h2 : sf2 = upd sf (bk lo (Hh x)) (iI (↑(cnt (ka lo Hh) L (bk lo (Hh x))) + (-1)))) : heaIs lw sz2 f2 sf2 lo n Hh (del L x) := by
  obtain ⟨a1, a2, a3, a4, a5⟩ := h
  exact ⟨a1, a2, h1, szC_del a4 a3.2.1 hx h2, fun y hy => a5 y ((del_sub L x).subset hy)⟩
theorem mvA_stay {nt : Int} {fm g : Nat → Int32} {B : List Nat} {i : Nat} (h : g = mvA nt fm (B.take i)) (c : nt = 0) : g = mvA nt fm (B.take (i + 1)) := by
  rw [h]; unfold mvA; rw [if_pos c, if_pos c]
theorem mvA_step {nt : Int} {fm g g2 : Nat → Int32} {B : List Nat} {i : Nat} (h : g = mvA nt fm (B.take i)) (c : nt ≠ 0) (hi : i < B.length) (e : g2 = upd g (B.getD i 0) (g (B.getD i 0) + 1)) : g2 = mvA nt fm (B.take (i + 1)) := by
  rw [e, h]
  unfold mvA
  rw [if_neg c, if_neg c, List.take_add_one, List.getElem?_eq_getElem hi, Option.toList_some, List.foldl_append, List.getD_eq_getElem?_getD, List.getElem?_eq_getElem hi]
  rfl
def maxL (Hh : Nat → Nat) (L : List Nat) : Int := L.foldl (fun a x => max a ↑(Hh x)) (-1)
def sumL (Hh : Nat → Nat) (L : List Nat) : Nat := L.foldl (fun a x => a + Hh x) 0
theorem maxL_take (Hh : Nat → Nat) (L : List Nat) {i : Nat} (h : i < L.length) : maxL Hh (L.take (i + 1)) = max (maxL Hh (L.take i)) ↑(Hh (L.getD i 0)) := by
  unfold maxL
  rw [List.take_add_one, List.getElem?_eq_getElem h, Option.toList_some, List.foldl_append, List.getD_eq_getElem?_getD, List.getElem?_eq_getElem h]
  rfl
theorem sumL_take (Hh : Nat → Nat) (L : List Nat) {i : Nat} (h : i < L.length) : sumL Hh (L.take (i + 1)) = sumL Hh (L.take i) + Hh (L.getD i 0) := by
  unfold sumL
  rw [List.take_add_one, List.getElem?_eq_getElem h, Option.toList_some, List.foldl_append, List.getD_eq_getElem?_getD, List.getElem?_eq_getElem h]
  rfl
theorem getD_in {L : List Nat} {i : Nat} (h : i < L.length) : L.getD i 0 ∈ L := by
  rw [List.getD_eq_getElem?_getD, List.getElem?_eq_getElem h]
  exact List.getElem_mem h
theorem take_all {L : List Nat} {i : Nat} (h : L.length ≤ i) : L.take i = L := List.take_of_length_le h
theorem maxF_rg (Hh : Nat → Nat) : ∀ (L : List Nat) (a : Int), -1 ≤ a → a < 1024 → (∀ x ∈ L, Hh x < 1024) → -1 ≤ L.foldl (fun a x => max a ↑(Hh x)) a ∧ L.foldl (fun a x => max a ↑(Hh x)) a < 1024
  | [], a, h1, h2, _ => ⟨h1, h2⟩
  | y :: L, a, h1, h2, h3 => by
    have hy := h3 y List.mem_cons_self
    exact maxF_rg Hh L (max a ↑(Hh y)) (by omega) (by omega) (fun x hx => h3 x (List.mem_cons_of_mem _ hx))
theorem maxL_in {Hh : Nat → Nat} {L : List Nat} (h : ∀ x ∈ L, Hh x < 1024) : -1 ≤ maxL Hh L ∧ maxL Hh L < 1024 := maxF_rg Hh L (-1) (by omega) (by omega) h
theorem sumF_le (Hh : Nat → Nat) : ∀ (L : List Nat) (a : Nat), (∀ x ∈ L, Hh x < 1024) → L.foldl (fun a x => a + Hh x) a ≤ a + 1024 * L.length
  | [], a, _ => by simp
  | y :: L, a, h => by
    have hy := h y List.mem_cons_self
    have := sumF_le Hh L (a + Hh y) (fun x hx => h x (List.mem_cons_of_mem _ hx))
    rw [List.foldl_cons, List.length_cons]
    omega
theorem sumL_le {Hh : Nat → Nat} {L : List Nat} (h : ∀ x ∈ L, Hh x < 1024) : sumL Hh L ≤ 1024 * L.length := by
  have := sumF_le Hh L 0 h
  unfold sumL
  omega
theorem fst_rg {c : Nat → Nat} {z : Int} (h : isFst c z) : -1 ≤ z ∧ z < 11 := by
  rcases h with ⟨h, -⟩ | ⟨b, h2, h3, -⟩ <;> omega
