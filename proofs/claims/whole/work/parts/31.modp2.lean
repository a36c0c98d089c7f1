/-! rows of a bucket in the order of coming -/
def bkL (κ : Nat → Nat) (L : List Nat) (b : Nat) : List Nat := L.filter (fun x => κ x == b)
theorem bkL_mem {κ : Nat → Nat} {L : List Nat} {b x : Nat} : x ∈ bkL κ L b ↔ x ∈ L ∧ κ x = b := by
  unfold bkL
  rw [List.mem_filter]; simp
theorem bkL_R {κ cm : Nat → Nat} {L : List Nat} {b : Nat} (h : ord κ cm L) : (bkL κ L b).Pairwise (fun x y => cm x < cm y) := by
  have h1 : (bkL κ L b).Pairwise (lex κ cm) := List.Pairwise.filter _ h
  refine h1.imp_of_mem (fun {x y} hx hy hxy => ?_)
  have e1 := (bkL_mem.mp hx).2
  have e2 := (bkL_mem.mp hy).2
  rcases hxy with q | q
  · omega
  · exact q.2
theorem bkL_nodup {κ cm : Nat → Nat} {L : List Nat} {b : Nat} (h : ord κ cm L) : (bkL κ L b).Nodup := List.Pairwise.filter _ (ord_nodup h)
theorem bkL_len (κ : Nat → Nat) (L : List Nat) (b : Nat) : (bkL κ L b).length = cnt κ L b := by
  unfold bkL cnt
  rw [List.countP_eq_length_filter]
theorem rwIs_0 (rw0 : Nat → Int32) (L : List Nat) : rwIs rw0 (fl L 0) := by
  intro j hj
  rw [fl_0] at hj
  simp at hj
theorem fl_bd {L : List Nat} {i : Nat} {j : Nat} {n : Nat} (h : ∀ x ∈ L, x < n) (hj : j < (fl L i).length) : (fl L i).getD j 0 < n ∧ (fl L i).getD j 0 ∈ L := by
  have := fl_mem.mp (getD_in hj)
  exact ⟨h _ this.1, this.1⟩
theorem iI_n1 (k : Nat) : iI ↑k + 1 = iI ↑(k + 1) := iI_add ↑k 1
theorem cpy_at {f g g2 : Nat → Int32} {n i : Nat} (e : g2 = va_cpy f g 0 0 n) (h : i < n) : g2 i = f i := by
  rw [e]
  unfold va_cpy
  rw [if_pos (by omega)]
  simp
