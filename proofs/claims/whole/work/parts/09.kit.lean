/-! rows that the walks use: the fields' words, the nest words, frames -/
theorem iX0 : ∀ w ∈ u_ws RX0 TX0 5, w ∈ lw_G := by
  intro w hw
  obtain ⟨k, hk, rfl⟩ := List.mem_map.mp hw
  have hk := List.mem_range.mp hk
  rcases (show k = 0 ∨ k = 1 ∨ k = 2 ∨ k = 3 ∨ k = 4 by omega) with rfl | rfl | rfl | rfl | rfl
  · exact qw53
  · exact qw55
  · exact qw57
  · exact qw59
  · exact qw61
theorem iX1 : ∀ w ∈ u_ws RX1 TX1 8, w ∈ lw_G := by
  intro w hw
  obtain ⟨k, hk, rfl⟩ := List.mem_map.mp hw
  have hk := List.mem_range.mp hk
  rcases (show k = 0 ∨ k = 1 ∨ k = 2 ∨ k = 3 ∨ k = 4 ∨ k = 5 ∨ k = 6 ∨ k = 7 by omega) with rfl | rfl | rfl | rfl | rfl | rfl | rfl | rfl
  · exact qw93
  · exact qw95
  · exact qw97
  · exact qw99
  · exact qw101
  · exact qw103
  · exact qw105
  · exact qw107
theorem iX2 : ∀ w ∈ u_ws RX2 TX2 2, w ∈ lw_G := by
  intro w hw
  obtain ⟨k, hk, rfl⟩ := List.mem_map.mp hw
  have hk := List.mem_range.mp hk
  rcases (show k = 0 ∨ k = 1 by omega) with rfl | rfl
  · exact qw80
  · exact qw82
theorem iX3 : ∀ w ∈ u_ws RX3 TX3 5, w ∈ lw_G := by
  intro w hw
  obtain ⟨k, hk, rfl⟩ := List.mem_map.mp hw
  have hk := List.mem_range.mp hk
  rcases (show k = 0 ∨ k = 1 ∨ k = 2 ∨ k = 3 ∨ k = 4 by omega) with rfl | rfl | rfl | rfl | rfl
  · exact qw115
  · exact qw117
  · exact qw119
  · exact qw121
  · exact qw123
theorem iX4 : ∀ w ∈ u_ws RX4 TX4 12, w ∈ lw_G := by
  intro w hw
  obtain ⟨k, hk, rfl⟩ := List.mem_map.mp hw
  have hk := List.mem_range.mp hk
  rcases (show k = 0 ∨ k = 1 ∨ k = 2 ∨ k = 3 ∨ k = 4 ∨ k = 5 ∨ k = 6 ∨ k = 7 ∨ k = 8 ∨ k = 9 ∨ k = 10 ∨ k = 11 by omega) with rfl | rfl | rfl | rfl | rfl | rfl | rfl | rfl | rfl | rfl | rfl | rfl
  · exact qw615
  · exact qw617
  · exact qw619
  · exact qw621
  · exact qw623
  · exact qw625
  · exact qw627
  · exact qw629
  · exact qw631
  · exact qw633
  · exact qw635
  · exact qw637
theorem iX5 : ∀ w ∈ u_ws RX5 TX5 4, w ∈ lw_G := by
  intro w hw
  obtain ⟨k, hk, rfl⟩ := List.mem_map.mp hw
  have hk := List.mem_range.mp hk
  rcases (show k = 0 ∨ k = 1 ∨ k = 2 ∨ k = 3 by omega) with rfl | rfl | rfl | rfl
  · exact qw645
  · exact qw647
  · exact qw649
  · exact qw651
theorem nw26 : Cond.methodLinkNest RX3 9 yX0_init "RadixHearth" ∈ lw_N := List.mem_filter.mpr ⟨List.mem_of_getElem? (i := 44) (by decide +kernel), rfl⟩
theorem nw56 : Cond.methodLinkNest RX1 11 yX2_init "RadixHearth" ∈ lw_N := List.mem_filter.mpr ⟨List.mem_of_getElem? (i := 74) (by decide +kernel), rfl⟩
theorem nw572 : Cond.methodLinkNest RX5 9 yX4_init "RadixHearthModel" ∈ lw_N := List.mem_filter.mpr ⟨List.mem_of_getElem? (i := 590) (by decide +kernel), rfl⟩
theorem nw577 : Cond.fieldLinkNest RX5 44 "RadixHearthModel$State" "heat" "[I" "RadixHearthModel" ∈ lw_N := List.mem_filter.mpr ⟨List.mem_of_getElem? (i := 595) (by decide +kernel), rfl⟩
theorem nw579 : Cond.fieldLinkNest RX5 54 "RadixHearthModel$State" "at" "[I" "RadixHearthModel" ∈ lw_N := List.mem_filter.mpr ⟨List.mem_of_getElem? (i := 597) (by decide +kernel), rfl⟩
theorem nw582 : Cond.fieldLinkNest RX5 101 "RadixHearthModel$State" "moved" "[I" "RadixHearthModel" ∈ lw_N := List.mem_filter.mpr ⟨List.mem_of_getElem? (i := 600) (by decide +kernel), rfl⟩
theorem nw584 : Cond.fieldLinkNest RX5 104 "RadixHearthModel$State" "raked" "[I" "RadixHearthModel" ∈ lw_N := List.mem_filter.mpr ⟨List.mem_of_getElem? (i := 602) (by decide +kernel), rfl⟩
theorem nw586 : Cond.fieldLinkNest RX5 40 "RadixHearthModel$State" "low" "[I" "RadixHearthModel" ∈ lw_N := List.mem_filter.mpr ⟨List.mem_of_getElem? (i := 604) (by decide +kernel), rfl⟩
theorem nw588 : Cond.fieldLinkNest RX5 92 "RadixHearthModel$State" "rakes" "[I" "RadixHearthModel" ∈ lw_N := List.mem_filter.mpr ⟨List.mem_of_getElem? (i := 606) (by decide +kernel), rfl⟩
theorem nw591 : Cond.fieldLinkNest RX5 110 "RadixHearthModel$State" "moves" "I" "RadixHearthModel" ∈ lw_N := List.mem_filter.mpr ⟨List.mem_of_getElem? (i := 609) (by decide +kernel), rfl⟩
theorem nw593 : Cond.fieldLinkNest RX5 113 "RadixHearthModel$State" "quenched" "I" "RadixHearthModel" ∈ lw_N := List.mem_filter.mpr ⟨List.mem_of_getElem? (i := 611) (by decide +kernel), rfl⟩
theorem nw595 : Cond.fieldLinkNest RX5 82 "RadixHearthModel$State" "row" "[I" "RadixHearthModel" ∈ lw_N := List.mem_filter.mpr ⟨List.mem_of_getElem? (i := 613) (by decide +kernel), rfl⟩
theorem nw624 : Cond.fieldLinkNest RX4 70 "RadixHearthModel" "lit" "I" "RadixHearthModel" ∈ lw_N := List.mem_filter.mpr ⟨List.mem_of_getElem? (i := 642) (by decide +kernel), rfl⟩
theorem va_F_grow {A : Nat → Prop} {s t : State} {H : Heap} {locs : List Loc} (h : va_S A s.heap H locs) (h1 : H.size ≤ t.heap.size) (h2 : ∀ q : Nat, q < H.size → t.heap[q]? = H[q]?) : va_F A s t := ⟨Nat.le_trans h.1 h1, fun q g1 g2 => (h2 q (Nat.lt_of_lt_of_le g1 h.1)).trans (h.2.1 q g1 g2)⟩
theorem va_S.weak {A : Nat → Prop} {H0 H : Heap} {locs : List Loc} (h : va_S (fun _ => False) H0 H locs) : va_S A H0 H locs := ⟨h.1, fun q h1 _ => h.2.1 q h1 (fun z => z), fun l hl => (h.2.2 l hl).elim⟩
theorem kt_one {D : va_G} {cl : List vw_C} {tys : List (ClassId × FieldType)} {U : State} {c : ClassId} {ty : FieldType} (h : va_K D cl (tys ++ [(c, ty)]) U) (k : Nat) {c0 : ClassId} (hk : tys[k]? = some (c0, ty)) (hty : ∀ C, ty ≠ .object C) : c = c0 := by
  have h1 := (h.2 tys.length (c, ty) (by simp)).2
  have h2 := (h.2 k (c0, ty) (by rw [List.getElem?_append_left (List.getElem?_eq_some_iff.mp hk).1]; exact hk)).2
  cases ty <;> first | exact absurd rfl (hty _) | exact Option.some.inj (h1.symm.trans h2)
