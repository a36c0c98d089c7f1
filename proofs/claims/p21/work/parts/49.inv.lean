/-! what holds of every state: kept by each call -/
theorem AI_lit {Z : va_AS} (hI : AI Z) {h x : Nat} (hh : h < 2) (hx : x < 1024) (hl : aL Z h ≤ x) (hn : aN Z < 40) : AI (litA Z h x) := by
  obtain ⟨i1, i2, i3, i4, i5⟩ := id hI
  have hnL : ∀ k, k < 2 → aN Z ∉ aR Z k := fun k hk q => by have := (((i3 k hk).1 _).mp q).1; omega
  have hag : ∀ k, k < 2 → ∀ y ∈ aR Z k, va_up (aH Z) (aN Z) x y = aH Z y := fun k hk => up_ne_of (hnL k hk)
  refine ⟨hn, fun i hi => ?_, fun k hk => ?_, i4, fun i hi hc => ?_⟩
  · show va_up (aH Z) (aN Z) x i < 1024 ∧ -1 ≤ va_up (aV Z) (aN Z) ↑h i ∧ va_up (aV Z) (aN Z) ↑h i ≤ 1
    have hi : i < aN Z + 1 := hi
    by_cases c : i = aN Z
    · rw [c, va_up_self, va_up_self]; omega
    · rw [va_up_ne _ _ c, va_up_ne _ _ c]; exact i2 i (by omega)
  · obtain ⟨j1, j2, j3⟩ := i3 k hk
    show inH (aN Z + 1) (va_up (aV Z) (aN Z) ↑h) k (va_up (aR Z) h _ k) ∧ heaOk (aL Z k) (va_up (aH Z) (aN Z) x) (va_up (aR Z) h _ k) ∧ aL Z k < 1024
    by_cases c : k = h
    · subst c
      rw [va_up_self]
      have ok := heaOk_congr j2 (hag k hk)
      refine ⟨fun y => ?_, ⟨ins_srt ok.1 _, ins_nodup ok.2.1 (hnL k hk), fun y hy => ?_⟩, j3⟩
      · rw [ins_mem, j1 y]
        by_cases d : y = aN Z
        · rw [d, va_up_self]
          exact ⟨fun _ => ⟨by omega, rfl⟩, fun _ => Or.inl rfl⟩
        · rw [va_up_ne _ _ d]
          constructor
          · rintro (q | q)
            · exact absurd q d
            · exact ⟨by omega, q.2⟩
          · intro q
            exact Or.inr ⟨by omega, q.2⟩
      · rcases ins_mem.mp hy with d | hy
        · rw [d, va_up_self]; omega
        · exact ok.2.2 y hy
    · rw [va_up_ne _ _ c]
      refine ⟨fun y => ?_, heaOk_congr j2 (hag k hk), j3⟩
      rw [j1 y]
      by_cases d : y = aN Z
      · rw [d, va_up_self]
        constructor
        · intro q; have := q.1; omega
        · intro q; have := q.2; omega
      · rw [va_up_ne _ _ d]
        constructor
        · intro q; exact ⟨by omega, q.2⟩
        · intro q; exact ⟨by omega, q.2⟩
  · show aK Z i = 0
    by_cases c : i = aN Z
    · exact i5 i hi (Or.inl (by omega))
    · refine i5 i hi ?_
      rcases hc with hc | hc
      · exact Or.inl (by have hc : aN Z + 1 ≤ i := hc; omega)
      · have hc : va_up (aV Z) (aN Z) ↑h i ≠ -1 := hc
        rw [va_up_ne _ _ c] at hc
        exact Or.inr hc
theorem AI_fad {Z : va_AS} (hI : AI Z) {h e x : Nat} (hh : h < 2) (he : e < aN Z) (ha : aV Z e = ↑h) (hl : aL Z h ≤ x) (hx : x < aH Z e) : AI (fadA Z h e x) := by
  obtain ⟨i1, i2, i3, i4, i5⟩ := id hI
  have hx4 : x < 1024 := by have := (i2 e he).1; omega
  refine ⟨i1, fun i hi => ?_, fun k hk => ?_, i4, i5⟩
  · show va_up (aH Z) e x i < 1024 ∧ _
    refine ⟨?_, (i2 i hi).2⟩
    by_cases c : i = e
    · rw [c, va_up_self]; exact hx4
    · rw [va_up_ne _ _ c]; exact (i2 i hi).1
  · obtain ⟨j1, j2, j3⟩ := i3 k hk
    show inH (aN Z) (aV Z) k (va_up (aR Z) h _ k) ∧ heaOk (aL Z k) (va_up (aH Z) e x) (va_up (aR Z) h _ k) ∧ aL Z k < 1024
    by_cases c : k = h
    · subst c
      rw [va_up_self]
      have heL : e ∈ aR Z k := (j1 e).mpr ⟨he, ha⟩
      have hni := del_notin j2.2.1 heL
      have ok := heaOk_congr (heaOk_del j2 e) (up_ne_of (x := x) hni)
      refine ⟨fun y => ?_, ⟨ins_srt ok.1 _, ins_nodup ok.2.1 hni, fun y hy => ?_⟩, j3⟩
      · rw [ins_mem, del_mem j2.2.1 heL, ← j1 y]
        constructor
        · rintro (q | q)
          · rw [q]; exact heL
          · exact q.1
        · intro q
          by_cases d : y = e
          · exact Or.inl d
          · exact Or.inr ⟨q, d⟩
      · rcases ins_mem.mp hy with d | hy
        · rw [d, va_up_self]; omega
        · exact ok.2.2 y hy
    · rw [va_up_ne _ _ c]
      have hni : e ∉ aR Z k := fun q => by have := ((j1 e).mp q).2; omega
      exact ⟨j1, heaOk_congr j2 (up_ne_of hni), j3⟩
theorem AI_que {Z : va_AS} (hI : AI Z) {h e : Nat} (hh : h < 2) (he : e < aN Z) (ha : aV Z e = ↑h) : AI (queA Z h e) := by
  obtain ⟨i1, i2, i3, i4, i5⟩ := id hI
  refine ⟨i1, fun i hi => ?_, fun k hk => ?_, i4, fun i hi hc => ?_⟩
  · show aH Z i < 1024 ∧ -1 ≤ va_up (aV Z) e (-1) i ∧ va_up (aV Z) e (-1) i ≤ 1
    refine ⟨(i2 i hi).1, ?_⟩
    by_cases c : i = e
    · rw [c, va_up_self]; omega
    · rw [va_up_ne _ _ c]; exact (i2 i hi).2
  · obtain ⟨j1, j2, j3⟩ := i3 k hk
    show inH (aN Z) (va_up (aV Z) e (-1)) k (va_up (aR Z) h _ k) ∧ heaOk (aL Z k) (aH Z) (va_up (aR Z) h _ k) ∧ aL Z k < 1024
    by_cases c : k = h
    · subst c
      rw [va_up_self]
      have heL : e ∈ aR Z k := (j1 e).mpr ⟨he, ha⟩
      refine ⟨fun y => ?_, heaOk_del j2 e, j3⟩
      rw [del_mem j2.2.1 heL, j1 y]
      by_cases d : y = e
      · rw [d, va_up_self]
        exact ⟨fun q => absurd rfl q.2, fun q => by have := q.2; omega⟩
      · rw [va_up_ne _ _ d]
        exact ⟨fun q => q.1, fun q => ⟨q, d⟩⟩
    · rw [va_up_ne _ _ c]
      refine ⟨fun y => ?_, j2, j3⟩
      rw [j1 y]
      by_cases d : y = e
      · rw [d, va_up_self]
        exact ⟨fun q => by have := q.2; omega, fun q => by have := q.2; omega⟩
      · rw [va_up_ne _ _ d]
  · show aK Z i = 0
    by_cases c : i = e
    · exact i5 i hi (Or.inr (by rw [c, ha]; omega))
    · refine i5 i hi ?_
      rcases hc with hc | hc
      · exact Or.inl hc
      · have hc : va_up (aV Z) e (-1) i ≠ -1 := hc
        rw [va_up_ne _ _ c] at hc
        exact Or.inr hc
theorem rkX_in {Z : va_AS} (hI : AI Z) {h : Nat} (hh : h < 2) (hne : aR Z h ≠ []) : rkX Z h ∈ aR Z h ∧ rkL (aL Z h) (aH Z) (aR Z h) ≠ [] := by
  obtain ⟨j1, j2, j3⟩ := hI.2.2.1 h hh
  have hn := (rkL_ne j2 hne).1
  have hne2 : rkL (aL Z h) (aH Z) (aR Z h) ≠ [] := fun q => by rw [q] at hn; simp at hn
  refine ⟨(rkL_perm j2).mem_iff.mp ?_, hne2⟩
  unfold rkX
  rw [← headD_getD]
  exact getD_in hn
theorem AI_rak {Z : va_AS} (hI : AI Z) {h : Nat} (hh : h < 2) (hne : aR Z h ≠ []) : AI (rakA Z h) := by
  obtain ⟨i1, i2, i3, i4, i5⟩ := id hI
  obtain ⟨hX, hne2⟩ := rkX_in hI hh hne
  have hXn : rkX Z h < aN Z ∧ aV Z (rkX Z h) = ↑h := ((i3 h hh).1 _).mp hX
  refine ⟨i1, fun i hi => ?_, fun k hk => ?_, fun i hi => ?_, fun i hi hc => ?_⟩
  · show aH Z i < 1024 ∧ -1 ≤ va_up (aV Z) (rkX Z h) (-1) i ∧ va_up (aV Z) (rkX Z h) (-1) i ≤ 1
    refine ⟨(i2 i hi).1, ?_⟩
    by_cases c : i = rkX Z h
    · rw [c, va_up_self]; omega
    · rw [va_up_ne _ _ c]; exact (i2 i hi).2
  · obtain ⟨j1, j2, j3⟩ := i3 k hk
    show inH (aN Z) (va_up (aV Z) (rkX Z h) (-1)) k (va_up (aR Z) h _ k) ∧ heaOk (va_up (aL Z) h _ k) (aH Z) (va_up (aR Z) h _ k) ∧ va_up (aL Z) h _ k < 1024
    by_cases c : k = h
    · subst c
      rw [va_up_self, va_up_self]
      refine ⟨fun y => ?_, heaOk_tail (rkL_ok j2 hne), rkLo_lt j2 hne j3⟩
      have hnd := (rkL_ok j2 hne).2.1
      have ht : y ∈ (rkL (aL Z k) (aH Z) (aR Z k)).tail ↔ y ∈ rkL (aL Z k) (aH Z) (aR Z k) ∧ y ≠ rkX Z k := by
        have h1 := tail_mem hnd y
        constructor
        · intro q
          rcases h1.mp q with q | ⟨-, q⟩
          · exact q
          · exact q.elim
        · intro q
          exact h1.mpr (Or.inl q)
      rw [ht, (rkL_perm j2).mem_iff, j1 y]
      by_cases d : y = rkX Z k
      · rw [d, va_up_self]
        exact ⟨fun q => absurd rfl q.2, fun q => by have := q.2; omega⟩
      · rw [va_up_ne _ _ d]
        exact ⟨fun q => q.1, fun q => ⟨q, d⟩⟩
    · rw [va_up_ne _ _ c, va_up_ne _ _ c]
      refine ⟨fun y => ?_, j2, j3⟩
      rw [j1 y]
      by_cases d : y = rkX Z h
      · rw [d, va_up_self]
        exact ⟨fun q => by have := q.2; omega, fun q => by have := q.2; omega⟩
      · rw [va_up_ne _ _ d]
  · show va_up (aK Z) (rkX Z h) 1 i = 0 ∨ va_up (aK Z) (rkX Z h) 1 i = 1
    by_cases c : i = rkX Z h
    · rw [c, va_up_self]; exact Or.inr rfl
    · rw [va_up_ne _ _ c]; exact i4 i hi
  · have hc : aN Z ≤ i ∨ va_up (aV Z) (rkX Z h) (-1) i ≠ -1 := hc
    show va_up (aK Z) (rkX Z h) 1 i = 0
    by_cases c : i = rkX Z h
    · rw [c, va_up_self] at hc
      rcases hc with hc | hc
      · omega
      · exact absurd rfl hc
    · rw [va_up_ne _ _ c] at hc ⊢
      exact i5 i hi hc
theorem AI_rai {Z : va_AS} (hI : AI Z) {h x : Nat} (hh : h < 2) (hx : x < 1024) (hm : x ≤ minL (aH Z) (aR Z h)) : AI (raiA Z h x) := by
  obtain ⟨i1, i2, i3, i4, i5⟩ := id hI
  refine ⟨i1, i2, fun k hk => ?_, i4, i5⟩
  obtain ⟨j1, j2, j3⟩ := i3 k hk
  show inH (aN Z) (aV Z) k (va_up (aR Z) h _ k) ∧ heaOk (va_up (aL Z) h x k) (aH Z) (va_up (aR Z) h _ k) ∧ va_up (aL Z) h x k < 1024
  by_cases c : k = h
  · subst c
    rw [va_up_self, va_up_self]
    have hp := insA_perm (ka x (aH Z)) (aR Z k) []
    rw [List.nil_append] at hp
    refine ⟨fun y => by rw [hp.mem_iff]; exact j1 y, ⟨insA_srt _ List.Pairwise.nil, hp.nodup_iff.mpr j2.2.1, fun y hy => ?_⟩, hx⟩
    have hy := hp.mem_iff.mp hy
    have := minL_le (Hh := aH Z) hy
    exact ⟨by omega, (j2.2.2 y hy).2⟩
  · rw [va_up_ne _ _ c, va_up_ne _ _ c]
    exact ⟨j1, j2, j3⟩
theorem AI_pou {Z : va_AS} (hI : AI Z) {h : Nat} (hh : h < 2) (hm : aR Z h = [] ∨ aL Z (1 - h) ≤ minL (aH Z) (aR Z h)) : AI (pouA Z h) := by
  obtain ⟨i1, i2, i3, i4, i5⟩ := id hI
  obtain ⟨a1, a2, a3⟩ := i3 h hh
  obtain ⟨b1, b2, b3⟩ := i3 (1 - h) (by omega)
  have hne : 1 - h ≠ h := by omega
  have hdis := inH_two b1 a1 hne
  refine ⟨i1, fun i hi => ⟨(i2 i hi).1, ?_⟩, fun k hk => ?_, i4, fun i hi hc => i5 i hi ?_⟩
  · show -1 ≤ avM (aV Z) (1 - h) (aR Z h) i ∧ avM (aV Z) (1 - h) (aR Z h) i ≤ 1
    by_cases c : i ∈ aR Z h
    · rw [avM_in c]; omega
    · rw [avM_out c]; exact (i2 i hi).2
  · show inH (aN Z) (avM (aV Z) (1 - h) (aR Z h)) k (va_up (va_up (aR Z) (1 - h) _) h [] k) ∧ heaOk (va_up (aL Z) h 0 k) (aH Z) (va_up (va_up (aR Z) (1 - h) _) h [] k) ∧ va_up (aL Z) h 0 k < 1024
    by_cases c : k = h
    · subst c
      rw [va_up_self, va_up_self]
      refine ⟨fun y => ⟨fun q => (by cases q), fun q => ?_⟩, ⟨List.Pairwise.nil, List.Pairwise.nil, fun y hy => (by cases hy)⟩, by omega⟩
      by_cases d : y ∈ aR Z k
      · rw [avM_in d] at q
        have := q.2
        omega
      · rw [avM_out d] at q
        exact absurd ((a1 y).mpr q) d
    · have ek : k = 1 - h := by omega
      subst ek
      rw [va_up_ne _ _ hne, va_up_self, va_up_ne _ _ hne]
      have hp := insA_perm (ka (aL Z (1 - h)) (aH Z)) (aR Z h) (aR Z (1 - h))
      refine ⟨fun y => ?_, ⟨insA_srt _ b2.1, hp.nodup_iff.mpr (List.nodup_append.mpr ⟨b2.2.1, a2.2.1, fun p hp q hq e => hdis p hp (e ▸ hq)⟩), fun y hy => ?_⟩, b3⟩
      · rw [insA_mem]
        by_cases d : y ∈ aR Z h
        · rw [avM_in d]
          exact ⟨fun _ => ⟨((a1 y).mp d).1, rfl⟩, fun _ => Or.inr d⟩
        · rw [avM_out d, ← b1 y]
          exact ⟨fun q => q.resolve_right d, Or.inl⟩
      · rcases insA_mem.mp hy with q | q
        · exact b2.2.2 y q
        · refine ⟨?_, (a2.2.2 y q).2⟩
          rcases hm with hm | hm
          · rw [hm] at q; cases q
          · have := minL_le (Hh := aH Z) q
            omega
  · have hc : aN Z ≤ i ∨ avM (aV Z) (1 - h) (aR Z h) i ≠ -1 := hc
    by_cases c : i ∈ aR Z h
    · exact Or.inr (by have := ((a1 i).mp c).2; omega)
    · rw [avM_out c] at hc; exact hc
