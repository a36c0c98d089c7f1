/-! raking, in whole numbers -/
theorem iI_z (x : Int32) : x + iI 0 = x := by
  rw [← iI_0]; exact Int32.add_zero x
theorem iI_a1 (x : Int32) (k : Nat) : x + iI ↑k + 1 = x + iI ↑(k + 1) := by
  rw [Int32.add_assoc]
  congr 1
  exact (iI_add ↑k 1)
theorem iI_a2 (x : Int32) (j k : Nat) : x + iI ↑j + iI ↑k = x + iI ↑(j + k) := by
  rw [Int32.add_assoc, iI_add]
  congr 1
def heaOk (lo : Nat) (Hh : Nat → Nat) (L : List Nat) : Prop := srt (ka lo Hh) L ∧ L.Nodup ∧ ∀ x ∈ L, lo ≤ Hh x ∧ Hh x < 1024
def rkF (lo : Nat) (Hh : Nat → Nat) (L : List Nat) : Nat := ka lo Hh (L.headD 0)
def rkM (lo : Nat) (Hh : Nat → Nat) (L : List Nat) : Nat := psum (cnt (ka lo Hh) L) (rkF lo Hh L + 1)
def rkLo (lo : Nat) (Hh : Nat → Nat) (L : List Nat) : Nat := if rkF lo Hh L = 0 then lo else minL Hh L
def rkB (lo : Nat) (Hh : Nat → Nat) (L : List Nat) : List Nat := if rkF lo Hh L = 0 then [] else L.take (rkM lo Hh L)
def rkL (lo : Nat) (Hh : Nat → Nat) (L : List Nat) : List Nat := if rkF lo Hh L = 0 then L else insA (ka (minL Hh L) Hh) (L.drop (rkM lo Hh L)) (L.take (rkM lo Hh L))
section RK
variable {lo : Nat} {Hh : Nat → Nat} {L : List Nat}
theorem rk_head (h : heaOk lo Hh L) (hne : L ≠ []) : L.headD 0 ∈ L ∧ ∀ x ∈ L, rkF lo Hh L ≤ ka lo Hh x := by
  cases L with
  | nil => exact absurd rfl hne
  | cons y T =>
    refine ⟨List.mem_cons_self, fun x hx => ?_⟩
    rcases List.mem_cons.mp hx with rfl | hx
    · exact Nat.le_refl _
    · exact (List.pairwise_cons.mp h.1).1 x hx
theorem rk_fst (h : heaOk lo Hh L) (hne : L ≠ []) (hlo : lo < 1024) : isFst (cnt (ka lo Hh) L) ↑(rkF lo Hh L) ∧ rkF lo Hh L ≤ 10 := by
  obtain ⟨h1, h2⟩ := rk_head h hne
  have h3 : rkF lo Hh L ≤ 10 := bk_le10 hlo (h.2.2 _ h1).2
  refine ⟨Or.inr ⟨rkF lo Hh L, by omega, rfl, ?_, fun j hj => ?_⟩, h3⟩
  · unfold cnt
    rw [List.countP_pos_iff]
    exact ⟨_, h1, by simp [rkF]⟩
  · unfold cnt
    rw [List.countP_eq_zero]
    intro x hx
    have := h2 x hx
    simp only [beq_iff_eq]
    omega
theorem rk_m (h : heaOk lo Hh L) (hne : L ≠ []) : rkM lo Hh L = cnt (ka lo Hh) L (rkF lo Hh L) ∧ rkM lo Hh L ≤ L.length := by
  obtain ⟨h1, h2⟩ := rk_head h hne
  refine ⟨?_, cnt_psum_le _ _ _⟩
  have h3 : psum (cnt (ka lo Hh) L) (rkF lo Hh L) = 0 := by
    rw [psum_cnt, List.countP_eq_zero]
    intro x hx
    have := h2 x hx
    simp only [decide_eq_true_eq]
    omega
  unfold rkM
  rw [psum_s, h3, Nat.zero_add]
theorem rk_in (h : heaOk lo Hh L) : (∀ x, x ∈ L.take (rkM lo Hh L) ↔ x ∈ L ∧ ka lo Hh x < rkF lo Hh L + 1) ∧ ∀ x, x ∈ L.drop (rkM lo Hh L) ↔ x ∈ L ∧ rkF lo Hh L + 1 ≤ ka lo Hh x := by
  unfold rkM
  rw [psum_cnt, (srt_take _ h.1).1, (srt_take _ h.1).2]
  refine ⟨fun x => ?_, fun x => ?_⟩
  · rw [List.mem_filter]; simp
  · rw [List.mem_filter]; simp
theorem rk_min (h : heaOk lo Hh L) (hne : L ≠ []) : minL Hh (L.take (rkM lo Hh L)) = minL Hh L := by
  obtain ⟨h1, h2⟩ := rk_head h hne
  obtain ⟨h3, h4⟩ := rk_in h
  have hy : L.headD 0 ∈ L.take (rkM lo Hh L) := (h3 _).mpr ⟨h1, Nat.lt_succ_self _⟩
  refine (minL_eq (minL_top _ _) (fun x hx => ?_) ?_).symm
  · rcases Nat.lt_or_ge (ka lo Hh x) (rkF lo Hh L + 1) with c | c
    · exact minL_le ((h3 x).mpr ⟨hx, c⟩)
    · have e1 : Hh (L.headD 0) < Hh x := bk_lt (h.2.2 x hx).1 (Nat.lt_of_lt_of_le (Nat.lt_succ_self _) c)
      have := minL_le (Hh := Hh) hy
      omega
  · rcases minL_of Hh (L.take (rkM lo Hh L)) with c | ⟨x, hx, c⟩
    · exact Or.inl c
    · exact Or.inr ⟨x, ((h3 x).mp hx).1, c⟩
theorem rk_low (h : heaOk lo Hh L) (hne : L ≠ []) : bk lo (minL Hh L) = rkF lo Hh L ∧ lo ≤ minL Hh L ∧ minL Hh L < 1024 := by
  obtain ⟨h1, h2⟩ := rk_head h hne
  obtain ⟨x, hx, e⟩ := minL_in (Hh := Hh) hne (fun x hx => (h.2.2 x hx).2)
  have a1 := h2 x hx
  have a2 := minL_le (Hh := Hh) h1
  refine ⟨?_, by rw [← e]; exact (h.2.2 x hx).1, by rw [← e]; exact (h.2.2 x hx).2⟩
  rcases Nat.lt_or_ge (rkF lo Hh L) (ka lo Hh x) with c | c
  · have := bk_lt (h.2.2 x hx).1 c
    omega
  · rw [← e]
    exact Nat.le_antisymm c a1
theorem rk_stay (h : heaOk lo Hh L) (hne : L ≠ []) : ∀ x ∈ L.drop (rkM lo Hh L), ka (minL Hh L) Hh x = ka lo Hh x := by
  intro x hx
  obtain ⟨h3, h4⟩ := rk_in h
  have := (h4 x).mp hx
  exact bk_stay (by rw [(rk_low h hne).1]; exact this.2)
theorem rk_srt (h : heaOk lo Hh L) (hne : L ≠ []) : srt (ka (minL Hh L) Hh) (L.drop (rkM lo Hh L)) := by
  have h1 : srt (ka lo Hh) (L.drop (rkM lo Hh L)) := List.Pairwise.sublist (List.drop_sublist _ _) h.1
  have h2 := rk_stay h hne
  unfold srt at h1 ⊢
  refine h1.imp_of_mem (fun ha hb hab => ?_)
  rw [h2 _ ha, h2 _ hb]
  exact hab
theorem rk_cnt (h : heaOk lo Hh L) (hne : L ≠ []) (j : Nat) : cnt (ka (minL Hh L) Hh) (L.drop (rkM lo Hh L)) j = if j ≤ rkF lo Hh L then 0 else cnt (ka lo Hh) L j := by
  have h2 := rk_stay h hne
  obtain ⟨h3, h4⟩ := rk_in h
  have e1 : cnt (ka (minL Hh L) Hh) (L.drop (rkM lo Hh L)) j = cnt (ka lo Hh) (L.drop (rkM lo Hh L)) j := by
    unfold cnt
    exact List.countP_congr (fun x hx => by rw [h2 x hx])
  have e2 : cnt (ka lo Hh) L j = cnt (ka lo Hh) (L.take (rkM lo Hh L)) j + cnt (ka lo Hh) (L.drop (rkM lo Hh L)) j := by
    unfold cnt
    rw [← List.countP_append, List.take_append_drop]
  rw [e1]
  by_cases c : j ≤ rkF lo Hh L
  · rw [if_pos c]
    unfold cnt
    rw [List.countP_eq_zero]
    intro x hx
    have := ((h4 x).mp hx).2
    simp only [beq_iff_eq]
    omega
  · rw [if_neg c, e2]
    have : cnt (ka lo Hh) (L.take (rkM lo Hh L)) j = 0 := by
      unfold cnt
      rw [List.countP_eq_zero]
      intro x hx
      have := ((h3 x).mp hx).2
      simp only [beq_iff_eq]
      omega
    omega
theorem rkL_perm (h : heaOk lo Hh L) : (rkL lo Hh L).Perm L := by
  unfold rkL
  by_cases c : rkF lo Hh L = 0
  · rw [if_pos c]
  · rw [if_neg c]
    refine (insA_perm _ _ _).trans ?_
    refine List.perm_append_comm.trans ?_
    rw [List.take_append_drop]
theorem rkL_ok (h : heaOk lo Hh L) (hne : L ≠ []) : heaOk (rkLo lo Hh L) Hh (rkL lo Hh L) := by
  have hp := rkL_perm h
  refine ⟨?_, hp.nodup_iff.mpr h.2.1, fun x hx => ?_⟩
  · unfold rkLo rkL
    by_cases c : rkF lo Hh L = 0
    · rw [if_pos c, if_pos c]; exact h.1
    · rw [if_neg c, if_neg c]
      exact insA_srt _ (rk_srt h hne)
  · have hx := hp.mem_iff.mp hx
    refine ⟨?_, (h.2.2 x hx).2⟩
    unfold rkLo
    by_cases c : rkF lo Hh L = 0
    · rw [if_pos c]; exact (h.2.2 x hx).1
    · rw [if_neg c]; exact minL_le hx
theorem rkL_ne (h : heaOk lo Hh L) (hne : L ≠ []) : 0 < (rkL lo Hh L).length ∧ (rkL lo Hh L).length = L.length := by
  have := (rkL_perm h).length_eq
  have := List.length_pos_iff.mpr hne
  omega
theorem rkLo_lt (h : heaOk lo Hh L) (hne : L ≠ []) (hlo : lo < 1024) : rkLo lo Hh L < 1024 := by
  unfold rkLo
  by_cases c : rkF lo Hh L = 0
  · rw [if_pos c]; exact hlo
  · rw [if_neg c]; exact (rk_low h hne).2.2
end RK
theorem headD_getD (L : List Nat) : L.getD 0 0 = L.headD 0 := by cases L <;> rfl
theorem del_first {L : List Nat} (h : 0 < L.length) : del L (L.getD 0 0) = L.tail := by
  cases L with
  | nil => simp at h
  | cons y T => exact del_head y T
theorem heaOk_tail {lo : Nat} {Hh : Nat → Nat} {L : List Nat} (h : heaOk lo Hh L) : heaOk lo Hh L.tail :=
  ⟨List.Pairwise.sublist (List.tail_sublist L) h.1, h.2.1.sublist (List.tail_sublist L), fun x hx => h.2.2 x (List.mem_of_mem_tail hx)⟩
/-- raked so often: the low, the row; the moved ones in their order -/
def rkI (lo : Nat) (Hh : Nat → Nat) (L : List Nat) : Nat → Nat × List Nat
  | 0 => (lo, L)
  | k + 1 => (rkLo (rkI lo Hh L k).1 Hh (rkI lo Hh L k).2, (rkL (rkI lo Hh L k).1 Hh (rkI lo Hh L k).2).tail)
def rkBs (lo : Nat) (Hh : Nat → Nat) (L : List Nat) : Nat → List Nat
  | 0 => []
  | k + 1 => rkBs lo Hh L k ++ rkB (rkI lo Hh L k).1 Hh (rkI lo Hh L k).2
theorem rkI_ok {lo : Nat} {Hh : Nat → Nat} {L : List Nat} (h : heaOk lo Hh L) (hlo : lo < 1024) : ∀ k, k ≤ L.length → heaOk (rkI lo Hh L k).1 Hh (rkI lo Hh L k).2 ∧ (rkI lo Hh L k).1 < 1024 ∧ (rkI lo Hh L k).2.length = L.length - k
  | 0, _ => ⟨h, hlo, rfl⟩
  | k + 1, hk => by
    obtain ⟨h1, h2, h3⟩ := rkI_ok h hlo k (by omega)
    have hne : (rkI lo Hh L k).2 ≠ [] := fun e => by rw [e] at h3; simp at h3; omega
    refine ⟨heaOk_tail (rkL_ok h1 hne), rkLo_lt h1 hne h2, ?_⟩
    show (rkL _ Hh _).tail.length = _
    rw [List.length_tail, (rkL_ne h1 hne).2, h3]
    omega
theorem mvA_app (nt : Int) (fm : Nat → Int32) (A B : List Nat) : mvA nt (mvA nt fm A) B = mvA nt fm (A ++ B) := by
  unfold mvA
  by_cases c : nt = 0
  · simp only [if_pos c]
  · simp only [if_neg c, List.foldl_append]
theorem mvA_nil (nt : Int) (fm : Nat → Int32) : mvA nt fm [] = fm := by
  unfold mvA
  by_cases c : nt = 0
  · rw [if_pos c]
  · rw [if_neg c]; rfl
theorem tk_0 {sfi : Nat → Int32} {cn : Nat → Nat} (h : ∀ j, j < 11 → sfi j = iI ↑(cn j)) : ∀ j, j < 11 → sfi j = iI ↑(if j < 0 then 0 else cn j) := by
  intro j hj
  rw [if_neg (by omega)]
  exact h j hj
theorem tk_s {sfi g : Nat → Int32} {cn : Nat → Nat} {i : Nat} {x : Int32} (h : ∀ j, j < 11 → sfi j = iI ↑(if j < i then 0 else cn j)) (e : g = upd sfi i x) (hx : x = iI 0) : ∀ j, j < 11 → g j = iI ↑(if j < i + 1 then 0 else cn j) := by
  intro j hj
  rw [e]
  by_cases c : j = i
  · subst c
    rw [upd_s, hx, if_pos (by omega)]; rfl
  · rw [upd_n _ _ c, h j hj]
    by_cases d : j < i
    · rw [if_pos d, if_pos (by omega)]
    · rw [if_neg d, if_neg (by omega)]
theorem cp_s {sfi g sb : Nat → Int32} {i : Nat} {x : Int32} (h : ∀ j, j < i → sfi j = sb j) (e : g = upd sfi i x) (hx : x = sb i) : ∀ j, j < i + 1 → g j = sb j := by
  intro j hj
  rw [e]
  by_cases c : j = i
  · subst c
    rw [upd_s, hx]
  · rw [upd_n _ _ c]
    exact h j (by omega)
theorem szC_like {sf sb : Nat → Int32} {cn : Nat → Nat} (h : szC sb cn) (e : ∀ j, j < 11 → sf j = sb j) : szC sf cn := ⟨fun b hb => by rw [e b hb]; exact h.1 b hb, h.2⟩
theorem cnt_nil (κ : Nat → Nat) (b : Nat) : cnt κ [] b = 0 := rfl
theorem heaIs_nil {lw sz : Int32} {f sf : Nat → Int32} {lo n : Nat} {Hh : Nat → Nat} {cn : Nat → Nat} (h1 : lw = iI ↑lo) (h2 : lo < 1024) (h3 : rowIs sz f []) (h4 : ∀ j, j < 11 → sf j = iI ↑(if j ≤ 10 then 0 else cn j)) : heaIs lw sz f sf lo n Hh [] := by
  refine ⟨h1, h2, h3, szC_of (by simp) (fun b hb => ?_), fun x hx => by cases hx⟩
  rw [h4 b hb, if_pos (by omega)]
  rfl
