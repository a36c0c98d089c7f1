/-! raking, by rows -/
theorem RK_fst {Z : va_AS} (hI : AI Z) {h : Nat} (hh : h < 2) (hne : aR Z h ≠ []) : rkF (aL Z h) (aH Z) (aR Z h) < 11 ∧ (∀ j, j < rkF (aL Z h) (aH Z) (aR Z h) → rwA Z h j = []) ∧ rwA Z h (rkF (aL Z h) (aH Z) (aR Z h)) = (aR Z h).take (rkM (aL Z h) (aH Z) (aR Z h)) ∧ 0 < (rwA Z h (rkF (aL Z h) (aH Z) (aR Z h))).length := by
  obtain ⟨j1, j2, j3⟩ := hI.2.2.1 h hh
  obtain ⟨k1, k2⟩ := rk_head j2 hne
  have k3 := (rk_fst j2 hne j3).2
  refine ⟨by omega, fun j hj => ?_, bkL_rk j2 hne, ?_⟩
  · unfold rwA bkL
    rw [List.filter_eq_nil_iff]
    intro y hy
    have := k2 y hy
    simp only [beq_iff_eq]
    omega
  · exact List.length_pos_iff.mpr (fun e => by
      have : (aR Z h).headD 0 ∈ rwA Z h (rkF (aL Z h) (aH Z) (aR Z h)) := bkL_mem.mpr ⟨k1, rfl⟩
      rw [e] at this
      cases this)
theorem RK_tail {lo : Nat} {Hh : Nat → Nat} {L : List Nat} (ok : heaOk lo Hh L) (hne : L ≠ []) (h0 : ka lo Hh (L.headD 0) = 0) : (bkL (ka lo Hh) L 0).getD 0 0 = L.headD 0 ∧ 0 < (bkL (ka lo Hh) L 0).length ∧ ∀ b, bkL (ka lo Hh) L.tail b = if b = 0 then (bkL (ka lo Hh) L 0).filter (fun y => decide (y ≠ L.headD 0)) else bkL (ka lo Hh) L b := by
  obtain ⟨a1, a2⟩ := bkL_first hne h0
  have hl : 0 < L.length := List.length_pos_iff.mpr hne
  refine ⟨a2, a1, fun b => ?_⟩
  have e1 : L.tail = del L (L.headD 0) := by rw [← headD_getD, del_first hl]
  have hm : L.headD 0 ∈ L := by rw [← headD_getD]; exact getD_in hl
  rw [e1, bkL_del ok.2.1 hm b, h0]
  by_cases c : b = 0
  · subst c
    rw [if_pos rfl]
  · rw [if_neg c, if_neg c]
theorem RS_rak0 {Z : va_AS} (hI : AI Z) {h : Nat} (hh : h < 2) (hne : aR Z h ≠ []) (hf : rkF (aL Z h) (aH Z) (aR Z h) = 0) : (rwA Z h 0).getD 0 0 = rkX Z h ∧ 0 < (rwA Z h 0).length ∧ rkLo (aL Z h) (aH Z) (aR Z h) = aL Z h ∧ rkB (aL Z h) (aH Z) (aR Z h) = [] ∧ ∀ k b, rwA (rakA Z h) k b = va_up (rwA Z) h (va_up (rwA Z h) 0 ((rwA Z h 0).filter (fun y => decide (y ≠ rkX Z h)))) k b := by
  obtain ⟨j1, j2, j3⟩ := hI.2.2.1 h hh
  have e1 : rkL (aL Z h) (aH Z) (aR Z h) = aR Z h := if_pos hf
  have e2 : rkLo (aL Z h) (aH Z) (aR Z h) = aL Z h := if_pos hf
  have eX : rkX Z h = (aR Z h).headD 0 := by unfold rkX; rw [e1]
  obtain ⟨a1, a2, a3⟩ := RK_tail j2 hne hf
  refine ⟨by rw [eX]; exact a1, a2, e2, if_pos hf, fun k b => ?_⟩
  show bkL (ka (va_up (aL Z) h (rkLo (aL Z h) (aH Z) (aR Z h)) k) (aH Z)) (va_up (aR Z) h (rkL (aL Z h) (aH Z) (aR Z h)).tail k) b = _
  rw [e1, e2]
  by_cases c : k = h
  · subst c
    rw [va_up_self, va_up_self, va_up_self, a3 b, eX]
    by_cases d : b = 0
    · subst d
      rw [if_pos rfl, va_up_self]
      rfl
    · rw [if_neg d, va_up_ne _ _ d]
      rfl
  · rw [va_up_ne _ _ c, va_up_ne _ _ c, va_up_ne _ _ c]
    rfl
theorem RK_R2 {Z : va_AS} (hI : AI Z) {h : Nat} (hh : h < 2) (hne : aR Z h ≠ []) (hf : rkF (aL Z h) (aH Z) (aR Z h) ≠ 0) : ∀ b, mvR (ka (minL (aH Z) (aR Z h)) (aH Z)) h (va_up (rwA Z) h (va_up (rwA Z h) (rkF (aL Z h) (aH Z) (aR Z h)) [])) (rwA Z h (rkF (aL Z h) (aH Z) (aR Z h))) h b = bkL (ka (minL (aH Z) (aR Z h)) (aH Z)) (rkL (aL Z h) (aH Z) (aR Z h)) b := by
  intro b
  obtain ⟨j1, j2, j3⟩ := hI.2.2.1 h hh
  have e1 : rkL (aL Z h) (aH Z) (aR Z h) = insA (ka (minL (aH Z) (aR Z h)) (aH Z)) ((aR Z h).drop (rkM (aL Z h) (aH Z) (aR Z h))) ((aR Z h).take (rkM (aL Z h) (aH Z) (aR Z h))) := if_neg hf
  rw [e1, (RK_fst hI hh hne).2.2.1]
  refine mvR_bk _ _ _ (rk_srt j2 hne) (fun c => ?_) b
  obtain ⟨t1, t2⟩ := rk_in j2
  have t3 := (rk_head j2 hne).2
  rw [va_up_self, bkL_congr (rk_stay j2 hne) c]
  by_cases d : c = rkF (aL Z h) (aH Z) (aR Z h)
  · subst d
    rw [va_up_self]
    unfold bkL
    refine (List.filter_eq_nil_iff.mpr (fun y hy => ?_)).symm
    have := ((t2 y).mp hy).2
    simp only [beq_iff_eq]
    omega
  · rw [va_up_ne _ _ d]
    have e2 : bkL (ka (aL Z h) (aH Z)) (aR Z h) c = bkL (ka (aL Z h) (aH Z)) ((aR Z h).take (rkM (aL Z h) (aH Z) (aR Z h))) c ++ bkL (ka (aL Z h) (aH Z)) ((aR Z h).drop (rkM (aL Z h) (aH Z) (aR Z h))) c := by
      unfold bkL
      rw [← List.filter_append, List.take_append_drop]
    have e3 : bkL (ka (aL Z h) (aH Z)) ((aR Z h).take (rkM (aL Z h) (aH Z) (aR Z h))) c = [] := by
      unfold bkL
      rw [List.filter_eq_nil_iff]
      intro y hy
      obtain ⟨g1, g2⟩ := (t1 y).mp hy
      have := t3 y g1
      simp only [beq_iff_eq]
      omega
    rw [show rwA Z h c = bkL (ka (aL Z h) (aH Z)) (aR Z h) c from rfl, e2, e3, List.nil_append]
theorem cnt_two (κ : Nat → Nat) {a b : Nat} (h : a ≠ b) : ∀ L : List Nat, (bkL κ L a).length + (bkL κ L b).length ≤ L.length
  | [] => Nat.le_refl _
  | y :: T => by
    have ih := cnt_two κ h T
    unfold bkL at ih ⊢
    rw [List.filter_cons, List.filter_cons]
    by_cases c : κ y = a
    · have d : ¬ κ y = b := fun e => h (c.symm.trans e)
      rw [if_pos (by simpa using c), if_neg (by simpa using d), List.length_cons, List.length_cons]
      omega
    · rw [if_neg (by simpa using c)]
      by_cases d : κ y = b
      · rw [if_pos (by simpa using d), List.length_cons, List.length_cons]
        omega
      · rw [if_neg (by simpa using d), List.length_cons]
        omega
theorem RS_rakp {Z : va_AS} (hI : AI Z) {h : Nat} (hh : h < 2) (hne : aR Z h ≠ []) {f : Nat} (ef : f = rkF (aL Z h) (aH Z) (aR Z h)) (hf : f ≠ 0) {R2 : Nat → Nat → List Nat} (eR : R2 = mvR (ka (minL (aH Z) (rwA Z h f)) (aH Z)) h (va_up (rwA Z) h (va_up (rwA Z h) f [])) (rwA Z h f)) :
    (R2 h 0).getD 0 0 = rkX Z h ∧ 0 < (R2 h 0).length ∧ (∀ x ∈ R2 h 0, x ∈ aR Z h) ∧ (R2 h 0).length ≤ 40 ∧ rkLo (aL Z h) (aH Z) (aR Z h) = minL (aH Z) (rwA Z h f) ∧ rkB (aL Z h) (aH Z) (aR Z h) = rwA Z h f ∧ (∀ b, b < 11 → (va_up (rwA Z) h (va_up (rwA Z h) f []) h b).length + (rwA Z h f).length ≤ 40) ∧ ∀ k b, rwA (rakA Z h) k b = va_up R2 h (va_up (R2 h) 0 ((R2 h 0).filter (fun y => decide (y ≠ rkX Z h)))) k b := by
  subst ef
  obtain ⟨j1, j2, j3⟩ := hI.2.2.1 h hh
  obtain ⟨m1, m2, m3⟩ := AI_len hI hh
  have m4 := hI.1
  have hB := (RK_fst hI hh hne).2.2.1
  have em : minL (aH Z) (rwA Z h (rkF (aL Z h) (aH Z) (aR Z h))) = minL (aH Z) (aR Z h) := by rw [hB]; exact rk_min j2 hne
  have e2 : rkLo (aL Z h) (aH Z) (aR Z h) = minL (aH Z) (aR Z h) := if_neg hf
  have ok := rkL_ok j2 hne
  rw [e2] at ok
  have hn2 := (rkX_in hI hh hne).2
  have h0 := rkL_head0 j2 hne
  rw [e2] at h0
  obtain ⟨a1, a2, a3⟩ := RK_tail ok hn2 h0
  have e3 : ∀ b, R2 h b = bkL (ka (minL (aH Z) (aR Z h)) (aH Z)) (rkL (aL Z h) (aH Z) (aR Z h)) b := fun b => by
    rw [eR, em]
    exact RK_R2 hI hh hne hf b
  have hin : ∀ x ∈ R2 h 0, x ∈ aR Z h := fun x hx => by
    rw [e3] at hx
    exact (rkL_perm j2).mem_iff.mp (bkL_mem.mp hx).1
  refine ⟨by rw [e3]; exact a1, by rw [e3]; exact a2, hin, ?_, e2.trans em.symm, (if_neg hf).trans hB.symm, fun b hb => ?_, fun k b => ?_⟩
  · rw [e3]
    have h5 : (bkL (ka (minL (aH Z) (aR Z h)) (aH Z)) (rkL (aL Z h) (aH Z) (aR Z h)) 0).length ≤ (rkL (aL Z h) (aH Z) (aR Z h)).length := List.length_filter_le _ _
    have h6 := (rkL_ne j2 hne).2
    omega
  · rw [va_up_self]
    by_cases d : b = rkF (aL Z h) (aH Z) (aR Z h)
    · subst d
      rw [va_up_self]
      have h5 : (rwA Z h (rkF (aL Z h) (aH Z) (aR Z h))).length ≤ (aR Z h).length := List.length_filter_le _ _
      simp only [List.length_nil]
      omega
    · rw [va_up_ne _ _ d]
      have h5 : (rwA Z h b).length + (rwA Z h (rkF (aL Z h) (aH Z) (aR Z h))).length ≤ (aR Z h).length := cnt_two _ d _
      omega
  · show bkL (ka (va_up (aL Z) h (rkLo (aL Z h) (aH Z) (aR Z h)) k) (aH Z)) (va_up (aR Z) h (rkL (aL Z h) (aH Z) (aR Z h)).tail k) b = _
    rw [e2]
    by_cases c : k = h
    · subst c
      rw [va_up_self, va_up_self, va_up_self, a3 b]
      by_cases d : b = 0
      · subst d
        rw [if_pos rfl, va_up_self, e3]
        rfl
      · rw [if_neg d, va_up_ne _ _ d, e3]
    · rw [va_up_ne _ _ c, va_up_ne _ _ c, va_up_ne _ _ c, eR, mvR_ne _ c, va_up_ne _ _ c]
      rfl
