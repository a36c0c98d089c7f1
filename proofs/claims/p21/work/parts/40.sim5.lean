set_option maxHeartbeats 4000000 in
set_option maxRecDepth 100000 in
theorem k_X4_raise_s (l : Launch) (D : va_G) (cI cZ cJ cK : ClassId) (hz9 : Nat) (t0 : Nat) (h0 : Int32) (x0 : Int32) (lw : Nat) (rk : Nat) (hs : Nat) (em : Nat) (mt : Int32) (qn : Int32) (L : List Nat) (f : Nat → va_E) (h x lo : Nat) (hlw : lw ∈ L) (hfl : ∃ g : Nat → Int32, f lw = .inl (cI, 2, .inl g) ∧ g h = iI ↑lo) (hhv : h0 = iI ↑h) (hh2 : h < 2) (hxv : x0 = iI ↑x) (hx4 : x < 1024) (hlo4 : lo < 1024) (hxe : x = lo) : Met l yX4_raise (ws_ yX4_raise cX4_raise 4 (Option.some .int)) ({ frames := 0, cells := 0, slots := 0, locals := 0 }) (va_Pc [.ref t0, .int h0, .int x0] (wPre D cI cZ cJ cK hz9 ([(t0, .inr (4, [.ref lw, .ref rk, .ref hs, .ref em, .int mt, .int qn]))] ++ va_pl L f))) (va_Qi (fun r (_ : Unit) => (r = iI (0))) (fun _ _ => True) (fun _ => False)) 0 0 (fun _ => False) := by
  refine Met.ofW (cc := cX4_raise) (maxL := 4) (ret := (Option.some .int)) (by decide) rfl ?_
  intro p e s m args below meth c s₁ hBd hml hv
  obtain ⟨rfl, hsz, hP, hD, hK, hT, hZ⟩ := hv
  have hx := hBd.exec
  have hb := hBd.bytes
  have hr := hBd.returns
  have hts : ∀ w ∈ lw_G, w.before _ s = true := fun w h => atoms_spec (ws := (ws_ yX4_raise cX4_raise 4 (Option.some .int))) hBd.pre w (List.mem_cons_of_mem _ h)
  have hown : s.vm.findClass RX4 = some m.cls := findClass_of_methodNamed hBd.named
  have hlocks := hBd.notSynchronized
  subst hsz
  have hS : va_S (fun _ => False) s.heap s.heap [] := va_S.rf
  have hl := lv_entry ([.ref t0, .int h0, .int x0]) (n := 4) (Nat.le_of_ble_eq_true rfl)
  rw [lg_entry_eq]
  generalize (lg_sl ([.ref t0, .int h0, .int x0]) ++ List.replicate (4 - (lg_sl ([.ref t0, .int h0, .int x0])).length) Slot.unset).toArray = ls at hl ⊢
  have hl : lv_has ls 4 [(0, .ref t0), (1, .int h0), (2, .int x0)] := hl
  have hP : va_P D vwCl ([(t0, .inr (4, [.ref lw, .ref rk, .ref hs, .ref em, .int mt, .int qn]))] ++ va_pl L f) s.heap := hP
  obtain ⟨g0, hf0, hg0⟩ := hfl
  refine lv_iload_n hx hb dX4_raise_0 rfl (lv_at hl 2 rfl) ?_
  refine lv_aload_n hx hb dX4_raise_1 rfl (lv_at hl 0 rfl) ?_
  refine va_get (D := D) (ci := 4) (v := .ref lw) (C := RX4) (T := TX4) (N := 6) hx hb hts iX4 hown hK hP 0 rfl rfl 0 (by decide) (hts _ qw616) (fun _ h9 => h9) rfl dX4_raise_2 ?_
  refine lv_iload_n hx hb dX4_raise_5 rfl (lv_at hl 1 rfl) ?_
  refine rd_iald hx hb hK hP 0 (pl_mem hlw hf0) rfl hhv (h) (by omega) (by omega) (by omega) dX4_raise_6 (fun x_6 e_6 => ?_)
  have v_6 : x_6 = iI (↑lo) := e_6.trans (hg0)
  refine lz_icmp_ne (tgt := 12) hx hb hxv v_6 ⟨by omega, by omega⟩ dX4_raise_7 (by decide) (fun c_7 => ?_) (fun c_7 => ?_)
  · exfalso; omega
  · refine lz_iconst hx hb dX4_raise_10 (fun x_10 v_10 => ?_)
    exact W.iret (v := x_10) hx hb hr (fun t ht hW => ⟨⟨x_10, (), rfl, v_10, trivial⟩, hS.F ht⟩) hS.2.2 dX4_raise_11
set_option maxHeartbeats 4000000 in
set_option maxRecDepth 100000 in
theorem k_X4_raise_d (l : Launch) (D : va_G) (cI cZ cJ cK : ClassId) (hz9 : Nat) (t0 : Nat) (h0 : Int32) (x0 : Int32) (lw : Nat) (rk : Nat) (hs : Nat) (em : Nat) (mt : Int32) (qn : Int32) (L : List Nat) (f : Nat → va_E) (h x : Nat) (n : Nat) (Hh : Nat → Nat) (mv : Nat → Int32) (rv : Nat → Int) (lo : Nat → Nat) (gk : Nat → Int32) (R : Nat → Nat → List Nat) (hSP : SimP cI cJ cK n Hh mv rv lo gk R lw rk hs em L f) (hhv : h0 = iI ↑h) (hh2 : h < 2) (hn4 : n ≤ 40) (htot : (catR (R h) 11).length ≤ 40) (hBn : ∀ x ∈ (catR (R h) 11), x < n) (hHn : ∀ e, e < n → Hh e < 1024) (hxv : x0 = iI ↑x) (hx4 : x < 1024) (hlo4 : lo h < 1024) (hxe : x ≠ lo h) : Met l yX4_raise (ws_ yX4_raise cX4_raise 4 (Option.some .int)) ({ frames := 3, cells := 93, slots := 3211, locals := 72 }) (va_Pc [.ref t0, .int h0, .int x0] (wPre D cI cZ cJ cK hz9 ([(t0, .inr (4, [.ref lw, .ref rk, .ref hs, .ref em, .int mt, .int qn]))] ++ va_pl L f))) (va_Qi (fun r (u : Int32 × List Nat × (Nat → va_E)) => (r = iI (↑((catR (R h) 11).length))) ∧ (SimP cI cJ cK n Hh (mvA 1 mv (catR (R h) 11)) rv (va_up lo h x) gk (mvR (ka x Hh) h (va_up R h (fun _ => [])) (catR (R h) 11)) lw rk hs em u.2.1 u.2.2) ∧ (u.1 = mt + iI ↑(catR (R h) 11).length)) (fun (u : Int32 × List Nat × (Nat → va_E)) t => wPost D (va_A ([(t0, .inr (4, [.ref lw, .ref rk, .ref hs, .ref em, .int mt, .int qn]))] ++ va_pl L f) hz9) ([(t0, .inr (4, [.ref lw, .ref rk, .ref hs, .ref em, .int u.1, .int qn]))] ++ va_pl u.2.1 u.2.2) t) (va_A ([(t0, .inr (4, [.ref lw, .ref rk, .ref hs, .ref em, .int mt, .int qn]))] ++ va_pl L f) hz9)) 93 3211 (va_A ([(t0, .inr (4, [.ref lw, .ref rk, .ref hs, .ref em, .int mt, .int qn]))] ++ va_pl L f) hz9) := by
  refine Met.ofW (cc := cX4_raise) (maxL := 4) (ret := (Option.some .int)) (by decide) rfl ?_
  intro p e s m args below meth c s₁ hBd hml hv
  obtain ⟨rfl, hsz, hP, hD, hK, hT, hZ⟩ := hv
  have hx := hBd.exec
  have hb := hBd.bytes
  have hr := hBd.returns
  have hts : ∀ w ∈ lw_G, w.before _ s = true := fun w h => atoms_spec (ws := (ws_ yX4_raise cX4_raise 4 (Option.some .int))) hBd.pre w (List.mem_cons_of_mem _ h)
  have hown : s.vm.findClass RX4 = some m.cls := findClass_of_methodNamed hBd.named
  have hlocks := hBd.notSynchronized
  subst hsz
  have hD := hD.self (sz := s.heap.size)
  have hZA := hZ.own hP
  generalize hAe : va_A ([(t0, .inr (4, [.ref lw, .ref rk, .ref hs, .ref em, .int mt, .int qn]))] ++ va_pl L f) s.heap.size = A at hD hZA ⊢
  have hA : ∀ q : Nat, s.heap.size ≤ q → A q := fun q h => by rw [← hAe]; exact Or.inr h
  have hZ := hZA
  have hS : va_S A s.heap s.heap [] := va_S.rf
  have hl := lv_entry ([.ref t0, .int h0, .int x0]) (n := 4) (Nat.le_of_ble_eq_true rfl)
  rw [lg_entry_eq]
  generalize (lg_sl ([.ref t0, .int h0, .int x0]) ++ List.replicate (4 - (lg_sl ([.ref t0, .int h0, .int x0])).length) Slot.unset).toArray = ls at hl ⊢
  have hl : lv_has ls 4 [(0, .ref t0), (1, .int h0), (2, .int x0)] := hl
  have hP : va_P D vwCl ([(t0, .inr (4, [.ref lw, .ref rk, .ref hs, .ref em, .int mt, .int qn]))] ++ va_pl L f) s.heap := hP
  obtain ⟨K, ha, ea, rr, qS⟩ := id hSP
  obtain ⟨⟨lw1, lw2, gl, lw3, lw4⟩, ⟨rk1, rk2, gg, rk3, rk4⟩, ⟨hs1, hs2, gs, hs3, hs4⟩, ⟨em1, em2, ge, em3, em4⟩, q5, q6, q7⟩ := id qS
  refine lv_iload_n hx hb dX4_raise_0 rfl (lv_at hl 2 rfl) ?_
  refine lv_aload_n hx hb dX4_raise_1 rfl (lv_at hl 0 rfl) ?_
  refine va_get (D := D) (ci := 4) (v := .ref lw) (C := RX4) (T := TX4) (N := 6) hx hb hts iX4 hown hK hP 0 rfl rfl 0 (by decide) (hts _ qw616) (fun _ h9 => h9) rfl dX4_raise_2 ?_
  refine lv_iload_n hx hb dX4_raise_5 rfl (lv_at hl 1 rfl) ?_
  refine rd_iald hx hb hK hP 0 (pl_mem lw1 lw3) rfl hhv (h) (by omega) (by omega) (by omega) dX4_raise_6 (fun x_6 e_6 => ?_)
  have v_6 : x_6 = iI (↑(lo h)) := e_6.trans (lw4 h hh2)
  refine lz_icmp_ne (tgt := 12) hx hb hxv v_6 ⟨by omega, by omega⟩ dX4_raise_7 (by decide) (fun c_7 => ?_) (fun c_7 => ?_)
  · refine lv_aload_n hx hb dX4_raise_12 rfl (lv_at hl 0 rfl) ?_
    refine lv_iload_n hx hb dX4_raise_13 rfl (lv_at hl 1 rfl) ?_
    refine cp_r (wr := []) (ws2 := fun u9 => ([(t0, .inr (4, [.ref lw, .ref rk, .ref hs, .ref em, .int mt, .int qn]))] ++ va_pl u9.1 u9.2)) (va_runV (As := [.int h0]) (rest := []) ⟨hx, hb, hml, hown, hts⟩ (k_X4_all l D cI cZ cJ cK _ t0 h0 lw rk hs em mt qn L f h n Hh mv rv lo gk R (hSP) (hhv.trans (congrArg iI (by omega))) (hh2) (htot)) (cwV 1 hts (gV qw488 qw489 qw490 qw14 qw491) rfl rfl rfl (by decide +kernel) ⟨Nat.le_of_ble_eq_true rfl, Nat.le_of_ble_eq_true rfl⟩) (pvP (ci := 4) (r := (RX4, TX4, 6)) (q0 := 0) (wr := []) hP hD hK hT hZ hS (List.Perm.refl _) rfl rfl) rfl rfl hl.1 rfl (lv_room (Nat.le_of_ble_eq_true rfl)) dX4_raise_14 ⟨Nat.le_of_ble_eq_true rfl, Nat.le_of_ble_eq_true rfl⟩) hS hP hD hA (List.Perm.refl _) (fun _ => List.Perm.refl _) (fun x_14 u_14 H locs hw_14 hP hD hS => ?_)
    obtain ⟨L2_14, f2_14⟩ := u_14
    have hP : va_P D vwCl ([(t0, .inr (4, [.ref lw, .ref rk, .ref hs, .ref em, .int mt, .int qn]))] ++ va_pl L2_14 f2_14) H := hP
    have hD : va_D A ([(t0, .inr (4, [.ref lw, .ref rk, .ref hs, .ref em, .int mt, .int qn]))] ++ va_pl L2_14 f2_14) := hD
    have hw_14 : (pExt L f L2_14 f2_14) ∧ (x_14 ∈ L2_14) ∧ (x_14 ∉ L) ∧ (rowE cI (catR (R h) 11) (f2_14 x_14)) := hw_14
    obtain ⟨e_14, i_14, o_14, v_14⟩ := hw_14
    refine lv_astore_n (lv' := [(3, .ref x_14), (0, .ref t0), (1, .int h0), (2, .int x0)]) hx hb dX4_raise_17 rfl hl (by decide) rfl (fun ls hl => ?_)
    refine lv_aload_n hx hb dX4_raise_18 rfl (lv_at hl 1 rfl) ?_
    refine va_get (D := D) (ci := 4) (v := .ref hs) (C := RX4) (T := TX4) (N := 6) hx hb hts iX4 hown hK hP 0 rfl rfl 2 (by decide) (hts _ qw619) (fun _ h9 => h9) rfl dX4_raise_19 ?_
    refine lv_iload_n hx hb dX4_raise_22 rfl (lv_at hl 2 rfl) ?_
    refine lz_bipush hx hb (by decide) dX4_raise_23 (fun x_23 v_23 => ?_)
    refine lz_iconst hx hb dX4_raise_25 (fun x_25 v_25 => ?_)
    refine pl_mna hx hb hown (hts _ qw566) hT.2.2.1 (hts _ qw53) hK hP hD hS hA (Nat.le_of_ble_eq_true rfl) (Nat.le_of_ble_eq_true rfl) v_23 v_25 dX4_raise_26 (fun n_26 r_26 L_26 f_26 g_26 H hx_26 hm_26 hq_26 hf_26 hr_26 hP hD hS => ?_)
    have hP : va_P D vwCl ([(t0, .inr (4, [.ref lw, .ref rk, .ref hs, .ref em, .int mt, .int qn]))] ++ va_pl L_26 f_26) H := hP
    have hD : va_D A ([(t0, .inr (4, [.ref lw, .ref rk, .ref hs, .ref em, .int mt, .int qn]))] ++ va_pl L_26 f_26) := hD
    refine pl_aast hx hb hK hP hD hS (hx_26 _ (e_14 _ hs1).1).1 ((hx_26 _ (e_14 _ hs1).1).2.trans ((e_14 _ hs1).2.trans hs3)) (pl_mem hm_26 hf_26) (comp_K hK hT) hhv (h) (by omega) (by omega) (by omega) dX4_raise_30 (fun f_30 H locs e_30 hP hD hS => ?_)
    have hP : va_P D vwCl ([(t0, .inr (4, [.ref lw, .ref rk, .ref hs, .ref em, .int mt, .int qn]))] ++ va_pl L_26 (va_up f_26 hs (.inl (cK, 2, .inr (.inr (.inr (.inr f_30))))))) H := hP
    have hD : va_D A ([(t0, .inr (4, [.ref lw, .ref rk, .ref hs, .ref em, .int mt, .int qn]))] ++ va_pl L_26 (va_up f_26 hs (.inl (cK, 2, .inr (.inr (.inr (.inr f_30))))))) := hD
    have hSQ1 : SimQ cI cJ cK n Hh mv rv lo gk (va_up R h (fun _ => [])) lw rk hs em L_26 (va_up f_26 hs (.inl (cK, 2, .inr (.inr (.inr (.inr f_30)))))) x_14 (catR (R h) 11) := SimQ_hea qS e_14 i_14 o_14 v_14 hx_26 hm_26 hq_26 hf_26 hr_26 hh2 hs3 e_30
    clear qS
    obtain ⟨K, ha, ea, rr, qS, qw, qk, qM⟩ := id hSQ1
    obtain ⟨⟨lw1, lw2, gl, lw3, lw4⟩, ⟨rk1, rk2, gg, rk3, rk4⟩, ⟨hs1, hs2, gs, hs3, hs4⟩, ⟨em1, em2, ge, em3, em4⟩, q5, q6, q7⟩ := id qS
    refine lv_aload_n hx hb dX4_raise_31 rfl (lv_at hl 1 rfl) ?_
    refine va_get (D := D) (ci := 4) (v := .ref lw) (C := RX4) (T := TX4) (N := 6) hx hb hts iX4 hown hK hP 0 rfl rfl 0 (by decide) (hts _ qw616) (fun _ h9 => h9) rfl dX4_raise_32 ?_
    refine lv_iload_n hx hb dX4_raise_35 rfl (lv_at hl 2 rfl) ?_
    refine lv_iload_n hx hb dX4_raise_36 rfl (lv_at hl 3 rfl) ?_
    refine pl_iast hx hb hK hP hD hS 0 lw1 lw3 rfl hhv (h) (by omega) (by omega) (by omega) dX4_raise_37 (fun f_37 H locs e_37 hP hD hS => ?_)
    have hP : va_P D vwCl ([(t0, .inr (4, [.ref lw, .ref rk, .ref hs, .ref em, .int mt, .int qn]))] ++ va_pl L_26 (va_up (va_up f_26 hs (.inl (cK, 2, .inr (.inr (.inr (.inr f_30)))))) lw (.inl (cI, 2, .inl f_37)))) H := hP
    have hD : va_D A ([(t0, .inr (4, [.ref lw, .ref rk, .ref hs, .ref em, .int mt, .int qn]))] ++ va_pl L_26 (va_up (va_up f_26 hs (.inl (cK, 2, .inr (.inr (.inr (.inr f_30)))))) lw (.inl (cI, 2, .inl f_37)))) := hD
    have hSQ2 : SimQ cI cJ cK n Hh mv rv (va_up lo h x) gk (va_up R h (fun _ => [])) lw rk hs em L_26 (va_up (va_up f_26 hs (.inl (cK, 2, .inr (.inr (.inr (.inr f_30)))))) lw (.inl (cI, 2, .inl f_37))) x_14 (catR (R h) 11) := SimQ_low qS qw qk qM lw3 e_37 hxv
    refine lv_aload_n hx hb dX4_raise_38 rfl (lv_at hl 1 rfl) ?_
    refine lv_iload_n hx hb dX4_raise_39 rfl (lv_at hl 2 rfl) ?_
    refine lv_aload_n hx hb dX4_raise_40 rfl (lv_at hl 0 rfl) ?_
    refine cp_v (wr := []) (ws2 := fun u9 => ([(t0, .inr (4, [.ref lw, .ref rk, .ref hs, .ref em, .int u9.1, .int qn]))] ++ va_pl u9.2.1 u9.2.2)) (va_runV (As := [.int h0, .ref x_14]) (rest := []) ⟨hx, hb, hml, hown, hts⟩ (k_X4_move l D cI cZ cJ cK _ t0 h0 x_14 lw rk hs em mt qn L_26 (va_up (va_up f_26 hs (.inl (cK, 2, .inr (.inr (.inr (.inr f_30)))))) lw (.inl (cI, 2, .inl f_37))) h n Hh mv rv (va_up lo h x) gk (va_up R h (fun _ => [])) (catR (R h) 11) (hSQ2) (hhv.trans (congrArg iI (by omega))) (by omega) (hn4) (by rw [va_up_self]; exact hx4) (hBn) (fun x hx9 => hHn x (hBn x hx9)) (fun b hb9 => by rw [va_up_self]; show 0 + _ ≤ 40; omega) (htot)) (cwV 2 hts (gV qw464 qw465 qw466 qw14 qw467) rfl rfl rfl (by decide +kernel) ⟨Nat.le_of_ble_eq_true rfl, Nat.le_of_ble_eq_true rfl⟩) (pvP (ci := 4) (r := (RX4, TX4, 6)) (q0 := 0) (wr := []) hP hD hK hT hZ hS (List.Perm.refl _) rfl rfl) rfl rfl hl.1 rfl (lv_room (Nat.le_of_ble_eq_true rfl)) dX4_raise_41 ⟨Nat.le_of_ble_eq_true rfl, Nat.le_of_ble_eq_true rfl⟩) hS hP hD hA (List.Perm.refl _) (fun _ => List.Perm.refl _) (fun u_41 H locs hw_41 hP hD hS => ?_)
    obtain ⟨m2_41, L2_41, f2_41⟩ := u_41
    have hP : va_P D vwCl ([(t0, .inr (4, [.ref lw, .ref rk, .ref hs, .ref em, .int m2_41, .int qn]))] ++ va_pl L2_41 f2_41) H := hP
    have hD : va_D A ([(t0, .inr (4, [.ref lw, .ref rk, .ref hs, .ref em, .int m2_41, .int qn]))] ++ va_pl L2_41 f2_41) := hD
    have hw_41 : (SimQ cI cJ cK n Hh (mvA 1 mv (catR (R h) 11)) rv (va_up lo h x) gk (mvR (ka ((va_up lo h x) h) Hh) h (va_up R h (fun _ => [])) (catR (R h) 11)) lw rk hs em L2_41 f2_41 x_14 (catR (R h) 11)) ∧ (m2_41 = mt + iI ↑(catR (R h) 11).length) := hw_41
    obtain ⟨v_41, m_41⟩ := hw_41
    rw [va_up_self] at v_41
    obtain ⟨K, ha, ea, rr, qS, qw, qk, qM⟩ := id v_41
    obtain ⟨gb, hfb, hgb⟩ := id qM
    refine lv_aload_n hx hb dX4_raise_44 rfl (lv_at hl 0 rfl) ?_
    refine rd_alen hx hb hK hP 0 (pl_mem qw hfb) rfl dX4_raise_45 (fun x_45 v_45 => ?_)
    have v_45 : x_45 = iI (↑((catR (R h) 11).length)) := v_45
    have hP9 := hP
    have hD9 := hD
    refine W.widen (k := 93) (n := 3211) (by omega) (by omega) ?_
    exact W.iret (v := x_45) hx hb hr (fun t ht hW => ⟨⟨x_45, ⟨m2_41, L2_41, f2_41⟩, rfl, ⟨v_45, v_41.P, m_41⟩, ⟨by rw [ht]; exact hP9, hD9⟩⟩, hS.F ht⟩) hS.2.2 dX4_raise_46
  · exfalso; omega
set_option maxHeartbeats 4000000 in
set_option maxRecDepth 100000 in
theorem k_X4_pour (l : Launch) (D : va_G) (cI cZ cJ cK : ClassId) (hz9 : Nat) (t0 : Nat) (h0 : Int32) (lw : Nat) (rk : Nat) (hs : Nat) (em : Nat) (mt : Int32) (qn : Int32) (L : List Nat) (f : Nat → va_E) (h : Nat) (n : Nat) (Hh : Nat → Nat) (mv : Nat → Int32) (rv : Nat → Int) (lo : Nat → Nat) (gk : Nat → Int32) (R : Nat → Nat → List Nat) (hSP : SimP cI cJ cK n Hh mv rv lo gk R lw rk hs em L f) (hhv : h0 = iI ↑h) (hh2 : h < 2) (hn4 : n ≤ 40) (htot : (catR (R h) 11).length ≤ 40) (hBn : ∀ x ∈ (catR (R h) 11), x < n) (hHn : ∀ e, e < n → Hh e < 1024) (hlo4 : lo (1 - h) < 1024) (hlen : ∀ b, b < 11 → (R (1 - h) b).length + (catR (R h) 11).length ≤ 40) : Met l yX4_pour (ws_ yX4_pour cX4_pour 3 (Option.some .int)) ({ frames := 3, cells := 93, slots := 3211, locals := 72 }) (va_Pc [.ref t0, .int h0] (wPre D cI cZ cJ cK hz9 ([(t0, .inr (4, [.ref lw, .ref rk, .ref hs, .ref em, .int mt, .int qn]))] ++ va_pl L f))) (va_Qi (fun r (u : Int32 × List Nat × (Nat → va_E)) => (r = iI (↑((catR (R h) 11).length))) ∧ (SimP cI cJ cK n Hh (mvA 1 mv (catR (R h) 11)) rv (va_up lo h 0) gk (mvR (ka (lo (1 - h)) Hh) (1 - h) (va_up R h (fun _ => [])) (catR (R h) 11)) lw rk hs em u.2.1 u.2.2) ∧ (u.1 = mt + iI ↑(catR (R h) 11).length)) (fun (u : Int32 × List Nat × (Nat → va_E)) t => wPost D (va_A ([(t0, .inr (4, [.ref lw, .ref rk, .ref hs, .ref em, .int mt, .int qn]))] ++ va_pl L f) hz9) ([(t0, .inr (4, [.ref lw, .ref rk, .ref hs, .ref em, .int u.1, .int qn]))] ++ va_pl u.2.1 u.2.2) t) (va_A ([(t0, .inr (4, [.ref lw, .ref rk, .ref hs, .ref em, .int mt, .int qn]))] ++ va_pl L f) hz9)) 93 3211 (va_A ([(t0, .inr (4, [.ref lw, .ref rk, .ref hs, .ref em, .int mt, .int qn]))] ++ va_pl L f) hz9) := by
  refine Met.ofW (cc := cX4_pour) (maxL := 3) (ret := (Option.some .int)) (by decide) rfl ?_
  intro p e s m args below meth c s₁ hBd hml hv
  obtain ⟨rfl, hsz, hP, hD, hK, hT, hZ⟩ := hv
  have hx := hBd.exec
  have hb := hBd.bytes
  have hr := hBd.returns
  have hts : ∀ w ∈ lw_G, w.before _ s = true := fun w h => atoms_spec (ws := (ws_ yX4_pour cX4_pour 3 (Option.some .int))) hBd.pre w (List.mem_cons_of_mem _ h)
  have hown : s.vm.findClass RX4 = some m.cls := findClass_of_methodNamed hBd.named
  have hlocks := hBd.notSynchronized
  subst hsz
  have hD := hD.self (sz := s.heap.size)
  have hZA := hZ.own hP
  generalize hAe : va_A ([(t0, .inr (4, [.ref lw, .ref rk, .ref hs, .ref em, .int mt, .int qn]))] ++ va_pl L f) s.heap.size = A at hD hZA ⊢
  have hA : ∀ q : Nat, s.heap.size ≤ q → A q := fun q h => by rw [← hAe]; exact Or.inr h
  have hZ := hZA
  have hS : va_S A s.heap s.heap [] := va_S.rf
  have hl := lv_entry ([.ref t0, .int h0]) (n := 3) (Nat.le_of_ble_eq_true rfl)
  rw [lg_entry_eq]
  generalize (lg_sl ([.ref t0, .int h0]) ++ List.replicate (3 - (lg_sl ([.ref t0, .int h0])).length) Slot.unset).toArray = ls at hl ⊢
  have hl : lv_has ls 3 [(0, .ref t0), (1, .int h0)] := hl
  have hP : va_P D vwCl ([(t0, .inr (4, [.ref lw, .ref rk, .ref hs, .ref em, .int mt, .int qn]))] ++ va_pl L f) s.heap := hP
  obtain ⟨K, ha, ea, rr, qS⟩ := id hSP
  obtain ⟨⟨lw1, lw2, gl, lw3, lw4⟩, ⟨rk1, rk2, gg, rk3, rk4⟩, ⟨hs1, hs2, gs, hs3, hs4⟩, ⟨em1, em2, ge, em3, em4⟩, q5, q6, q7⟩ := id qS
  refine lv_aload_n hx hb dX4_pour_0 rfl (lv_at hl 0 rfl) ?_
  refine lv_iload_n hx hb dX4_pour_1 rfl (lv_at hl 1 rfl) ?_
  refine cp_r (wr := []) (ws2 := fun u9 => ([(t0, .inr (4, [.ref lw, .ref rk, .ref hs, .ref em, .int mt, .int qn]))] ++ va_pl u9.1 u9.2)) (va_runV (As := [.int h0]) (rest := []) ⟨hx, hb, hml, hown, hts⟩ (k_X4_all l D cI cZ cJ cK _ t0 h0 lw rk hs em mt qn L f h n Hh mv rv lo gk R (hSP) (hhv.trans (congrArg iI (by omega))) (hh2) (htot)) (cwV 1 hts (gV qw488 qw489 qw490 qw14 qw491) rfl rfl rfl (by decide +kernel) ⟨Nat.le_of_ble_eq_true rfl, Nat.le_of_ble_eq_true rfl⟩) (pvP (ci := 4) (r := (RX4, TX4, 6)) (q0 := 0) (wr := []) hP hD hK hT hZ hS (List.Perm.refl _) rfl rfl) rfl rfl hl.1 rfl (lv_room (Nat.le_of_ble_eq_true rfl)) dX4_pour_2 ⟨Nat.le_of_ble_eq_true rfl, Nat.le_of_ble_eq_true rfl⟩) hS hP hD hA (List.Perm.refl _) (fun _ => List.Perm.refl _) (fun x_2 u_2 H locs hw_2 hP hD hS => ?_)
  obtain ⟨L2_2, f2_2⟩ := u_2
  have hP : va_P D vwCl ([(t0, .inr (4, [.ref lw, .ref rk, .ref hs, .ref em, .int mt, .int qn]))] ++ va_pl L2_2 f2_2) H := hP
  have hD : va_D A ([(t0, .inr (4, [.ref lw, .ref rk, .ref hs, .ref em, .int mt, .int qn]))] ++ va_pl L2_2 f2_2) := hD
  have hw_2 : (pExt L f L2_2 f2_2) ∧ (x_2 ∈ L2_2) ∧ (x_2 ∉ L) ∧ (rowE cI (catR (R h) 11) (f2_2 x_2)) := hw_2
  obtain ⟨e_2, i_2, o_2, v_2⟩ := hw_2
  refine lv_astore_n (lv' := [(2, .ref x_2), (0, .ref t0), (1, .int h0)]) hx hb dX4_pour_5 rfl hl (by decide) rfl (fun ls hl => ?_)
  refine lv_aload_n hx hb dX4_pour_6 rfl (lv_at hl 1 rfl) ?_
  refine va_get (D := D) (ci := 4) (v := .ref hs) (C := RX4) (T := TX4) (N := 6) hx hb hts iX4 hown hK hP 0 rfl rfl 2 (by decide) (hts _ qw619) (fun _ h9 => h9) rfl dX4_pour_7 ?_
  refine lv_iload_n hx hb dX4_pour_10 rfl (lv_at hl 2 rfl) ?_
  refine lz_bipush hx hb (by decide) dX4_pour_11 (fun x_11 v_11 => ?_)
  refine lz_iconst hx hb dX4_pour_13 (fun x_13 v_13 => ?_)
  refine pl_mna hx hb hown (hts _ qw566) hT.2.2.1 (hts _ qw53) hK hP hD hS hA (Nat.le_of_ble_eq_true rfl) (Nat.le_of_ble_eq_true rfl) v_11 v_13 dX4_pour_14 (fun n_14 r_14 L_14 f_14 g_14 H hx_14 hm_14 hq_14 hf_14 hr_14 hP hD hS => ?_)
  have hP : va_P D vwCl ([(t0, .inr (4, [.ref lw, .ref rk, .ref hs, .ref em, .int mt, .int qn]))] ++ va_pl L_14 f_14) H := hP
  have hD : va_D A ([(t0, .inr (4, [.ref lw, .ref rk, .ref hs, .ref em, .int mt, .int qn]))] ++ va_pl L_14 f_14) := hD
  refine pl_aast hx hb hK hP hD hS (hx_14 _ (e_2 _ hs1).1).1 ((hx_14 _ (e_2 _ hs1).1).2.trans ((e_2 _ hs1).2.trans hs3)) (pl_mem hm_14 hf_14) (comp_K hK hT) hhv (h) (by omega) (by omega) (by omega) dX4_pour_18 (fun f_18 H locs e_18 hP hD hS => ?_)
  have hP : va_P D vwCl ([(t0, .inr (4, [.ref lw, .ref rk, .ref hs, .ref em, .int mt, .int qn]))] ++ va_pl L_14 (va_up f_14 hs (.inl (cK, 2, .inr (.inr (.inr (.inr f_18))))))) H := hP
  have hD : va_D A ([(t0, .inr (4, [.ref lw, .ref rk, .ref hs, .ref em, .int mt, .int qn]))] ++ va_pl L_14 (va_up f_14 hs (.inl (cK, 2, .inr (.inr (.inr (.inr f_18))))))) := hD
  have hSQ1 : SimQ cI cJ cK n Hh mv rv lo gk (va_up R h (fun _ => [])) lw rk hs em L_14 (va_up f_14 hs (.inl (cK, 2, .inr (.inr (.inr (.inr f_18)))))) x_2 (catR (R h) 11) := SimQ_hea qS e_2 i_2 o_2 v_2 hx_14 hm_14 hq_14 hf_14 hr_14 hh2 hs3 e_18
  clear qS
  obtain ⟨K, ha, ea, rr, qS, qw, qk, qM⟩ := id hSQ1
  obtain ⟨⟨lw1, lw2, gl, lw3, lw4⟩, ⟨rk1, rk2, gg, rk3, rk4⟩, ⟨hs1, hs2, gs, hs3, hs4⟩, ⟨em1, em2, ge, em3, em4⟩, q5, q6, q7⟩ := id qS
  refine lv_aload_n hx hb dX4_pour_19 rfl (lv_at hl 1 rfl) ?_
  refine va_get (D := D) (ci := 4) (v := .ref lw) (C := RX4) (T := TX4) (N := 6) hx hb hts iX4 hown hK hP 0 rfl rfl 0 (by decide) (hts _ qw616) (fun _ h9 => h9) rfl dX4_pour_20 ?_
  refine lv_iload_n hx hb dX4_pour_23 rfl (lv_at hl 2 rfl) ?_
  refine lz_iconst hx hb dX4_pour_24 (fun x_24 v_24 => ?_)
  refine pl_iast hx hb hK hP hD hS 0 lw1 lw3 rfl hhv (h) (by omega) (by omega) (by omega) dX4_pour_25 (fun f_25 H locs e_25 hP hD hS => ?_)
  have hP : va_P D vwCl ([(t0, .inr (4, [.ref lw, .ref rk, .ref hs, .ref em, .int mt, .int qn]))] ++ va_pl L_14 (va_up (va_up f_14 hs (.inl (cK, 2, .inr (.inr (.inr (.inr f_18)))))) lw (.inl (cI, 2, .inl f_25)))) H := hP
  have hD : va_D A ([(t0, .inr (4, [.ref lw, .ref rk, .ref hs, .ref em, .int mt, .int qn]))] ++ va_pl L_14 (va_up (va_up f_14 hs (.inl (cK, 2, .inr (.inr (.inr (.inr f_18)))))) lw (.inl (cI, 2, .inl f_25)))) := hD
  have hSQ2 : SimQ cI cJ cK n Hh mv rv (va_up lo h 0) gk (va_up R h (fun _ => [])) lw rk hs em L_14 (va_up (va_up f_14 hs (.inl (cK, 2, .inr (.inr (.inr (.inr f_18)))))) lw (.inl (cI, 2, .inl f_25))) x_2 (catR (R h) 11) := SimQ_low qS qw qk qM lw3 e_25 v_24
  refine lv_aload_n hx hb dX4_pour_26 rfl (lv_at hl 1 rfl) ?_
  refine lz_iconst hx hb dX4_pour_27 (fun x_27 v_27 => ?_)
  refine lv_iload_n hx hb dX4_pour_28 rfl (lv_at hl 2 rfl) ?_
  refine lz_isub hx hb v_27 hhv dX4_pour_29 (fun x_29 v_29 => ?_)
  refine lv_aload_n hx hb dX4_pour_30 rfl (lv_at hl 0 rfl) ?_
  refine cp_v (wr := []) (ws2 := fun u9 => ([(t0, .inr (4, [.ref lw, .ref rk, .ref hs, .ref em, .int u9.1, .int qn]))] ++ va_pl u9.2.1 u9.2.2)) (va_runV (As := [.int x_29, .ref x_2]) (rest := []) ⟨hx, hb, hml, hown, hts⟩ (k_X4_move l D cI cZ cJ cK _ t0 x_29 x_2 lw rk hs em mt qn L_14 (va_up (va_up f_14 hs (.inl (cK, 2, .inr (.inr (.inr (.inr f_18)))))) lw (.inl (cI, 2, .inl f_25))) (1 - h) n Hh mv rv (va_up lo h 0) gk (va_up R h (fun _ => [])) (catR (R h) 11) (hSQ2) (v_29.trans (congrArg iI (by omega))) (by omega) (hn4) (by rw [va_up_ne _ _ (show 1 - h ≠ h by omega)]; exact hlo4) (hBn) (fun x hx9 => hHn x (hBn x hx9)) (fun b hb9 => by rw [va_up_ne _ _ (show 1 - h ≠ h by omega)]; exact hlen b hb9) (htot)) (cwV 2 hts (gV qw464 qw465 qw466 qw14 qw467) rfl rfl rfl (by decide +kernel) ⟨Nat.le_of_ble_eq_true rfl, Nat.le_of_ble_eq_true rfl⟩) (pvP (ci := 4) (r := (RX4, TX4, 6)) (q0 := 0) (wr := []) hP hD hK hT hZ hS (List.Perm.refl _) rfl rfl) rfl rfl hl.1 rfl (lv_room (Nat.le_of_ble_eq_true rfl)) dX4_pour_31 ⟨Nat.le_of_ble_eq_true rfl, Nat.le_of_ble_eq_true rfl⟩) hS hP hD hA (List.Perm.refl _) (fun _ => List.Perm.refl _) (fun u_31 H locs hw_31 hP hD hS => ?_)
  obtain ⟨m2_31, L2_31, f2_31⟩ := u_31
  have hP : va_P D vwCl ([(t0, .inr (4, [.ref lw, .ref rk, .ref hs, .ref em, .int m2_31, .int qn]))] ++ va_pl L2_31 f2_31) H := hP
  have hD : va_D A ([(t0, .inr (4, [.ref lw, .ref rk, .ref hs, .ref em, .int m2_31, .int qn]))] ++ va_pl L2_31 f2_31) := hD
  have hw_31 : (SimQ cI cJ cK n Hh (mvA 1 mv (catR (R h) 11)) rv (va_up lo h 0) gk (mvR (ka ((va_up lo h 0) (1 - h)) Hh) (1 - h) (va_up R h (fun _ => [])) (catR (R h) 11)) lw rk hs em L2_31 f2_31 x_2 (catR (R h) 11)) ∧ (m2_31 = mt + iI ↑(catR (R h) 11).length) := hw_31
  obtain ⟨v_31, m_31⟩ := hw_31
  rw [va_up_ne _ _ (show 1 - h ≠ h by omega)] at v_31
  obtain ⟨K, ha, ea, rr, qS, qw, qk, qM⟩ := id v_31
  obtain ⟨gb, hfb, hgb⟩ := id qM
  refine lv_aload_n hx hb dX4_pour_34 rfl (lv_at hl 0 rfl) ?_
  refine rd_alen hx hb hK hP 0 (pl_mem qw hfb) rfl dX4_pour_35 (fun x_35 v_35 => ?_)
  have v_35 : x_35 = iI (↑((catR (R h) 11).length)) := v_35
  have hP9 := hP
  have hD9 := hD
  refine W.widen (k := 93) (n := 3211) (by omega) (by omega) ?_
  exact W.iret (v := x_35) hx hb hr (fun t ht hW => ⟨⟨x_35, ⟨m2_31, L2_31, f2_31⟩, rfl, ⟨v_35, v_31.P, m_31⟩, ⟨by rw [ht]; exact hP9, hD9⟩⟩, hS.F ht⟩) hS.2.2 dX4_pour_36
