/-! rows that are made anew, in whole numbers -/
theorem take_s1 {M : List Nat} {i : Nat} (h : i < M.length) : M.take (i + 1) = M.take i ++ [M.getD i 0] := by
  rw [List.take_add_one, List.getElem?_eq_getElem h, Option.toList_some, List.getD_eq_getElem?_getD, List.getElem?_eq_getElem h, Option.getD_some]
theorem flt_in {M : List Nat} {i x : Nat} (h : i < M.length) (c : M.getD i 0 ≠ x) : (M.take (i + 1)).filter (fun y => decide (y ≠ x)) = (M.take i).filter (fun y => decide (y ≠ x)) ++ [M.getD i 0] := by
  rw [take_s1 h, List.filter_append]
  congr 1
  rw [List.filter_cons_of_pos (by simpa using c)]
  rfl
theorem flt_out {M : List Nat} {i x : Nat} (h : i < M.length) (c : (↑(M.getD i 0) : Int) = ↑x) : (M.take (i + 1)).filter (fun y => decide (y ≠ x)) = (M.take i).filter (fun y => decide (y ≠ x)) := by
  have c' : M.getD i 0 = x := by omega
  rw [take_s1 h, List.filter_append, List.filter_cons_of_neg (by simpa using c')]
  simp
theorem bk_neF {lo x i : Nat} (c : (↑(x / 2 ^ i) : Int) ≠ ↑(lo / 2 ^ i)) : i + 1 ≤ bk lo x := by
  rcases Nat.lt_or_ge i (bk lo x) with h | h
  · exact h
  · exact absurd (by rw [bk_le.mp h]) c
theorem bk_eqT {lo x i : Nat} (c : (↑(x / 2 ^ i) : Int) = ↑(lo / 2 ^ i)) : bk lo x ≤ i := bk_le.mpr (by exact_mod_cast c.symm)
