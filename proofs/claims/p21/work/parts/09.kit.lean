/-! rows that the walks use: the fields' words, the nest words, frames -/
theorem iX0 : ∀ w ∈ u_ws RX0 TX0 5, w ∈ lw_G := by
  intro w hw
  obtain ⟨k, hk, rfl⟩ := List.mem_map.mp hw
  have hk := List.mem_range.mp hk
  rcases (show k = 0 ∨ k = 1 ∨ k = 2 ∨ k = 3 ∨ k = 4 by omega) with rfl | rfl | rfl | rfl | rfl
  · exact qw42
  · exact qw44
  · exact qw46
  · exact qw48
  · exact qw50
theorem iX1 : ∀ w ∈ u_ws RX1 TX1 8, w ∈ lw_G := by
  intro w hw
  obtain ⟨k, hk, rfl⟩ := List.mem_map.mp hw
  have hk := List.mem_range.mp hk
  rcases (show k = 0 ∨ k = 1 ∨ k = 2 ∨ k = 3 ∨ k = 4 ∨ k = 5 ∨ k = 6 ∨ k = 7 by omega) with rfl | rfl | rfl | rfl | rfl | rfl | rfl | rfl
  · exact qw82
  · exact qw84
  · exact qw86
  · exact qw88
  · exact qw90
  · exact qw92
  · exact qw94
  · exact qw96
theorem iX2 : ∀ w ∈ u_ws RX2 TX2 2, w ∈ lw_G := by
  intro w hw
  obtain ⟨k, hk, rfl⟩ := List.mem_map.mp hw
  have hk := List.mem_range.mp hk
  rcases (show k = 0 ∨ k = 1 by omega) with rfl | rfl
  · exact qw69
  · exact qw71
theorem iX3 : ∀ w ∈ u_ws RX3 TX3 5, w ∈ lw_G := by
  intro w hw
  obtain ⟨k, hk, rfl⟩ := List.mem_map.mp hw
  have hk := List.mem_range.mp hk
  rcases (show k = 0 ∨ k = 1 ∨ k = 2 ∨ k = 3 ∨ k = 4 by omega) with rfl | rfl | rfl | rfl | rfl
  · exact qw104
  · exact qw106
  · exact qw108
  · exact qw110
  · exact qw112
theorem iX4 : ∀ w ∈ u_ws RX4 TX4 6, w ∈ lw_G := by
  intro w hw
  obtain ⟨k, hk, rfl⟩ := List.mem_map.mp hw
  have hk := List.mem_range.mp hk
  rcases (show k = 0 ∨ k = 1 ∨ k = 2 ∨ k = 3 ∨ k = 4 ∨ k = 5 by omega) with rfl | rfl | rfl | rfl | rfl | rfl
  · exact qw625
  · exact qw627
  · exact qw629
  · exact qw631
  · exact qw633
  · exact qw635
theorem nw24 : Cond.methodLinkNest RX3 9 yX0_init "RadixHearth" ∈ lw_N := List.mem_filter.mpr ⟨List.mem_of_getElem? (i := 33) (by decide +kernel), rfl⟩
theorem nw54 : Cond.methodLinkNest RX1 11 yX2_init "RadixHearth" ∈ lw_N := List.mem_filter.mpr ⟨List.mem_of_getElem? (i := 63) (by decide +kernel), rfl⟩
theorem nw602 : Cond.methodLinkNest RL 85 yX4_init "RadixHearthLaw" ∈ lw_N := List.mem_filter.mpr ⟨List.mem_of_getElem? (i := 611) (by decide +kernel), rfl⟩
theorem nw116 : Cond.castable xI xI ∈ lw_N := List.mem_filter.mpr ⟨List.mem_of_getElem? (i := 125) (by decide +kernel), rfl⟩
theorem nw320 : Cond.castable xA xA ∈ lw_N := List.mem_filter.mpr ⟨List.mem_of_getElem? (i := 329) (by decide +kernel), rfl⟩
theorem nw192 : Cond.castable xS xS ∈ lw_N := List.mem_filter.mpr ⟨List.mem_of_getElem? (i := 201) (by decide +kernel), rfl⟩
theorem va_F_grow {A : Nat → Prop} {s t : State} {H : Heap} {locs : List Loc} (h : va_S A s.heap H locs) (h1 : H.size ≤ t.heap.size) (h2 : ∀ q : Nat, q < H.size → t.heap[q]? = H[q]?) : va_F A s t := ⟨Nat.le_trans h.1 h1, fun q g1 g2 => (h2 q (Nat.lt_of_lt_of_le g1 h.1)).trans (h.2.1 q g1 g2)⟩
theorem va_S.weak {A : Nat → Prop} {H0 H : Heap} {locs : List Loc} (h : va_S (fun _ => False) H0 H locs) : va_S A H0 H locs := ⟨h.1, fun q h1 _ => h.2.1 q h1 (fun z => z), fun l hl => (h.2.2 l hl).elim⟩
theorem kt_one {D : va_G} {cl : List vw_C} {tys : List (ClassId × FieldType)} {U : State} {c : ClassId} {ty : FieldType} (h : va_K D cl (tys ++ [(c, ty)]) U) (k : Nat) {c0 : ClassId} (hk : tys[k]? = some (c0, ty)) (hty : ∀ C, ty ≠ .object C) : c = c0 := by
  have h1 := (h.2 tys.length (c, ty) (by simp)).2
  have h2 := (h.2 k (c0, ty) (by rw [List.getElem?_append_left (List.getElem?_eq_some_iff.mp hk).1]; exact hk)).2
  cases ty <;> first | exact absurd rfl (hty _) | exact Option.some.inj (h1.symm.trans h2)
