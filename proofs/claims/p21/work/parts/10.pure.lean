/-! rows of embers: what an array and a size hold -/
def rowIs (sz : Int32) (f : Nat → Int32) (L : List Nat) : Prop := sz = iI ↑L.length ∧ L.length ≤ 40 ∧ ∀ i, i < L.length → f i = iI ↑(L.getD i 0)
theorem getD_take {L : List Nat} {k i : Nat} (h : i < k) : (L.take k).getD i 0 = L.getD i 0 := by
  simp [List.getD_eq_getElem?_getD, List.getElem?_take, h]
theorem getD_drop {L : List Nat} {k i : Nat} : (L.drop k).getD i 0 = L.getD (k + i) 0 := by
  simp [List.getD_eq_getElem?_getD, List.getElem?_drop]
theorem getD_app_l {A B : List Nat} {i : Nat} (h : i < A.length) : (A ++ B).getD i 0 = A.getD i 0 := by
  simp [List.getD_eq_getElem?_getD, List.getElem?_append_left h]
theorem getD_app_r {A B : List Nat} {i : Nat} (h : A.length ≤ i) : (A ++ B).getD i 0 = B.getD (i - A.length) 0 := by
  simp [List.getD_eq_getElem?_getD, List.getElem?_append_right h]
theorem rowIs_ins {sz sz2 : Int32} {f f1 f2 : Nat → Int32} {L : List Nat} {k x : Nat} {v : Int32} (h : rowIs sz f L) (hk : k ≤ L.length) (hl : L.length < 40) (e1 : f1 = va_cpy f f k (k + 1) (L.length - k)) (e2 : f2 = upd f1 k v) (hv : v = iI ↑x) (hs : sz2 = iI (↑L.length + 1)) : rowIs sz2 f2 (L.take k ++ x :: L.drop k) := by
  obtain ⟨h1, h2, h3⟩ := h
  have hlen : (L.take k ++ x :: L.drop k).length = L.length + 1 := by simp; omega
  have ht : (L.take k).length = k := by simp; omega
  refine ⟨by rw [hs, hlen]; rfl, by omega, fun i hi => ?_⟩
  rw [hlen] at hi
  subst e2
  by_cases c1 : i < k
  · rw [upd_n _ _ (by omega), getD_app_l (by omega), getD_take c1, e1, ← h3 i (by omega)]
    unfold va_cpy
    rw [if_neg (by omega)]
  · rw [getD_app_r (by omega), ht]
    by_cases c2 : i = k
    · subst c2
      rw [upd_s, Nat.sub_self, hv]; rfl
    · rw [upd_n _ _ c2, e1]
      obtain ⟨j, rfl⟩ : ∃ j, i = k + 1 + j := ⟨i - k - 1, by omega⟩
      unfold va_cpy
      rw [if_pos (by omega), show k + 1 + j - k = j + 1 by omega, show k + (k + 1 + j - (k + 1)) = k + j by omega, h3 (k + j) (by omega)]
      show iI ↑(L.getD (k + j) 0) = iI ↑((x :: L.drop k).getD (j + 1) 0)
      rw [List.getD_cons_succ, getD_drop]
theorem rowIs_rem {sz sz2 : Int32} {f f2 : Nat → Int32} {L : List Nat} {k : Nat} (h : rowIs sz f L) (hk : k < L.length) (e2 : f2 = va_cpy f f (k + 1) k (L.length - 1 - k)) (hs : sz2 = iI (↑L.length - 1)) : rowIs sz2 f2 (L.take k ++ L.drop (k + 1)) := by
  obtain ⟨h1, h2, h3⟩ := h
  have hlen : (L.take k ++ L.drop (k + 1)).length = L.length - 1 := by simp; omega
  have ht : (L.take k).length = k := by simp; omega
  refine ⟨by rw [hs, hlen]; exact congrArg iI (by omega), by omega, fun i hi => ?_⟩
  rw [hlen] at hi
  subst e2
  by_cases c1 : i < k
  · rw [getD_app_l (by omega), getD_take c1, ← h3 i (by omega)]
    unfold va_cpy
    rw [if_neg (by omega)]
  · rw [getD_app_r (by omega), ht, getD_drop]
    unfold va_cpy
    rw [if_pos (by omega), show k + 1 + (i - k) = i + 1 by omega, h3 (i + 1) (by omega)]
theorem rowIs_like {sz sz2 szo : Int32} {f f2 g : Nat → Int32} {L : List Nat} (h : rowIs szo g L) (e2 : f2 = va_cpy g f 0 0 L.length) (hs : sz2 = szo) : rowIs sz2 f2 L := by
  obtain ⟨h1, h2, h3⟩ := h
  refine ⟨by rw [hs, h1], h2, fun i hi => ?_⟩
  rw [e2, ← h3 i hi]
  unfold va_cpy
  rw [if_pos (by omega)]
  simp
theorem rowIs_take {sz2 szo : Int32} {f f2 g : Nat → Int32} {L : List Nat} {k : Nat} (h : rowIs szo g L) (hk : k ≤ L.length) (e2 : f2 = va_cpy g f 0 0 k) (hs : sz2 = iI ↑k) : rowIs sz2 f2 (L.take k) := by
  obtain ⟨h1, h2, h3⟩ := h
  have hlen : (L.take k).length = k := by simp; omega
  refine ⟨by rw [hs, hlen], by omega, fun i hi => ?_⟩
  rw [getD_take (by omega), e2, ← h3 i (by omega)]
  unfold va_cpy
  rw [if_pos (by omega)]
  simp
theorem rowIs_drop {sz2 szo : Int32} {f2 g : Nat → Int32} {L : List Nat} {k : Nat} (h : rowIs szo g L) (hk : k ≤ L.length) (e2 : f2 = va_cpy g g k 0 (L.length - k)) (hs : sz2 = iI (↑L.length - ↑k)) : rowIs sz2 f2 (L.drop k) := by
  obtain ⟨h1, h2, h3⟩ := h
  have hlen : (L.drop k).length = L.length - k := by simp
  refine ⟨by rw [hs, hlen]; exact congrArg iI (by omega), by omega, fun i hi => ?_⟩
  rw [getD_drop, e2, ← h3 (k + i) (by omega)]
  unfold va_cpy
  rw [if_pos (by omega)]
  simp
theorem getD_bd {L : List Nat} {b : Nat} (h : ∀ y ∈ L, y < b) (i : Nat) : L.getD i 0 < b ∨ L.getD i 0 = 0 := by
  rw [List.getD_eq_getElem?_getD]
  cases hq : L[i]? with
  | none => exact Or.inr rfl
  | some y => exact Or.inl (h y (List.mem_of_getElem? hq))
theorem getD_mem_at {L : List Nat} {x : Nat} (h : x ∈ L) : L.getD (L.idxOf x) 0 = x := by
  have hl := List.idxOf_lt_length_of_mem h
  rw [List.getD_eq_getElem?_getD, List.getElem?_eq_getElem hl, Option.getD_some]
  exact List.getElem_idxOf hl
theorem idx_next {L : List Nat} {x i : Nat} (hm : x ∈ L) (h : i ≤ L.idxOf x) (c : (↑(L.getD i 0) : Int) ≠ ↑x) : i + 1 ≤ L.idxOf x := by
  rcases Nat.lt_or_ge i (L.idxOf x) with q | q
  · exact q
  · exfalso
    have e : i = L.idxOf x := by omega
    exact c (by rw [e, getD_mem_at hm])
theorem idx_here {L : List Nat} {x i : Nat} (h : i ≤ L.idxOf x) (hl : i < L.length) (c : (↑(L.getD i 0) : Int) = ↑x) : i = L.idxOf x := by
  have c1 : L.getD i 0 = x := by omega
  rw [List.getD_eq_getElem?_getD, List.getElem?_eq_getElem hl, Option.getD_some] at c1
  rcases Nat.lt_or_ge i (L.idxOf x) with q | q
  · exfalso
    have := List.not_of_lt_findIdx (p := (· == x)) (xs := L) (i := i) (by exact q)
    simp [c1] at this
  · omega
