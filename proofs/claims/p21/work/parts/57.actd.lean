set_option maxHeartbeats 4000000 in
set_option maxRecDepth 100000 in
theorem k_L_act_d (l : Launch) (hl0 : l.stackTraces = false) (D : va_G) (cI cZ cJ cK : ClassId) (hz9 : Nat) (t0 : Nat) (x0 : Int32) (lw : Nat) (rk : Nat) (hs : Nat) (em : Nat) (mt : Int32) (qn : Int32) (L : List Nat) (f : Nat → va_E) (ad : Nat → Nat) (Z : va_AS) (cx : CX) (hC : CStx Z cx) (hI : AI Z) (hPI : PI Z) (hSP : SMA cI cJ cK Z lw rk hs em L f) (hmt : mt = aT Z) (hqn : qn = aQ Z) (hcs : bel x0 14 = 4) : Met l yL_act (wh_ yL_act cL_act 11 (Option.some .boolean) [(257, 265, 268, 65), (385, 392, 395, 65), (452, 461, 464, 65)]) ({ frames := 8, cells := 176, slots := 6417, locals := 143 }) (va_Pc [.ref (ad 0), .ref t0, .int x0] (wPre D cI cZ cJ cK hz9 (((clsW cI cZ ad cx) ++ [(t0, .inr (4, [.ref lw, .ref rk, .ref hs, .ref em, .int mt, .int qn]))]) ++ va_pl L f))) (va_Qi (fun r (u : va_AS × CX × Nat × Int32 × Int32 × List Nat × (Nat → va_E)) => (r = iI (1)) ∧ (CStx u.1 u.2.1) ∧ (AI u.1) ∧ (PI u.1) ∧ (SMA cI cJ cK u.1 lw rk hs u.2.2.1 u.2.2.2.2.2.1 u.2.2.2.2.2.2) ∧ (u.2.2.2.1 = aT u.1) ∧ (u.2.2.2.2.1 = aQ u.1) ∧ (bel x0 14 ≠ 5 → ∀ k, k < 2 → aL Z k ≤ aL u.1 k)) (fun (u : va_AS × CX × Nat × Int32 × Int32 × List Nat × (Nat → va_E)) t => wPost D (va_A (((clsW cI cZ ad cx) ++ [(t0, .inr (4, [.ref lw, .ref rk, .ref hs, .ref em, .int mt, .int qn]))]) ++ va_pl L f) hz9) (((clsW cI cZ ad u.2.1) ++ [(t0, .inr (4, [.ref lw, .ref rk, .ref hs, .ref u.2.2.1, .int u.2.2.2.1, .int u.2.2.2.2.1]))]) ++ va_pl u.2.2.2.2.2.1 u.2.2.2.2.2.2) t) (va_A (((clsW cI cZ ad cx) ++ [(t0, .inr (4, [.ref lw, .ref rk, .ref hs, .ref em, .int mt, .int qn]))]) ++ va_pl L f) hz9)) 176 6417 (va_A (((clsW cI cZ ad cx) ++ [(t0, .inr (4, [.ref lw, .ref rk, .ref hs, .ref em, .int mt, .int qn]))]) ++ va_pl L f) hz9) := by
  refine va_ofWH (cc := cL_act) (maxL := 11) (ret := (Option.some .boolean)) (hh := [(257, 265, 268, 65), (385, 392, 395, 65), (452, 461, 464, 65)]) (by decide) rfl ?_
  intro p e s m args below meth c s₁ hBd hml hv
  obtain ⟨rfl, hsz, hP, hD, hK, hT, hZ⟩ := hv
  have hx := hBd.exec
  have hb := hBd.bytes
  have hr := hBd.returns
  have hts : ∀ w ∈ lw_G, w.before _ s = true := fun w h => atoms_spec (ws := (wh_ yL_act cL_act 11 (Option.some .boolean) [(257, 265, 268, 65), (385, 392, 395, 65), (452, 461, 464, 65)])) hBd.pre w (List.mem_cons_of_mem _ h)
  have htab : c.exceptionTable.toList = [⟨257, 265, 268, 65⟩, ⟨385, 392, 395, 65⟩, ⟨452, 461, 464, 65⟩] := vx_table (x := yL_act) hBd (hts _ qw523)
  have hown : s.vm.findClass RL = some m.cls := findClass_of_methodNamed hBd.named
  have hlocks := hBd.notSynchronized
  subst hsz
  have hD := hD.self (sz := s.heap.size)
  have hZA := hZ.own hP
  generalize hAe : va_A (((clsW cI cZ ad cx) ++ [(t0, .inr (4, [.ref lw, .ref rk, .ref hs, .ref em, .int mt, .int qn]))]) ++ va_pl L f) s.heap.size = A at hD hZA ⊢
  have hA : ∀ q : Nat, s.heap.size ≤ q → A q := fun q h => by rw [← hAe]; exact Or.inr h
  have hZ := hZA
  have hS : va_S A s.heap s.heap [] := va_S.rf
  have hl := lv_entry ([.ref (ad 0), .ref t0, .int x0]) (n := 11) (Nat.le_of_ble_eq_true rfl)
  rw [lg_entry_eq]
  generalize (lg_sl ([.ref (ad 0), .ref t0, .int x0]) ++ List.replicate (11 - (lg_sl ([.ref (ad 0), .ref t0, .int x0])).length) Slot.unset).toArray = ls at hl ⊢
  have hl : lv_has ls 11 [(0, .ref (ad 0)), (1, .ref t0), (2, .int x0)] := hl
  have hP : va_P D vwCl (((clsW cI cZ ad cx) ++ [(t0, .inr (4, [.ref lw, .ref rk, .ref hs, .ref em, .int mt, .int qn]))]) ++ va_pl L f) s.heap := hP
  obtain ⟨K, ha, ea, rr, qS⟩ := id hSP
  obtain ⟨⟨lw1, lw2, gl, lw3, lw4⟩, ⟨rk1, rk2, gg, rk3, rk4⟩, ⟨hs1, hs2, gs, hs3, hs4⟩, ⟨em1, em2, ge, em3, em4⟩, q5, q6, q7⟩ := id qS
  refine lv_iload_n hx hb dL_act_0 rfl (lv_at hl 2 rfl) ?_
  refine lz_iconst hx hb dL_act_1 (fun x_1 v_1 => ?_)
  refine lv_ishr hx hb dL_act_2 ?_
  refine lv_topi (fun x_2 e_2 => ?_)
  refine lz_iconst hx hb dL_act_3 (fun x_3 v_3 => ?_)
  refine cr_i (va_runS (As := [.int x_2, .int x_3]) (rest := []) ⟨hx, hb, hml, hown, hts⟩ (k_L_below l D cI cZ cJ cK _ x_2 x_3 2 (v_3.trans (congrArg iI (by omega))) (by omega) (by omega)) (va_cwS 2 hts (gS qw513 qw514 qw9 qw515) rfl rfl rfl (by decide +kernel) ⟨Nat.le_of_ble_eq_true rfl, Nat.le_of_ble_eq_true rfl⟩) (ps hP hD hK hT hZ hS [] rfl rfl) rfl rfl hl.1 rfl (lv_room (Nat.le_of_ble_eq_true rfl)) dL_act_4 ⟨Nat.le_of_ble_eq_true rfl, Nat.le_of_ble_eq_true rfl⟩) hS hP (fun x_4 H locs hw_4 hP hS => ?_)
  have hw_4 : (x_4 = iI (↑(bel x_2 2))) := hw_4
  have v_4 := hw_4
  obtain ⟨h, hh2, hh⟩ : ∃ h : Nat, h < 2 ∧ x_4 = iI ↑h := ⟨_, bel_lt x_2 (by decide), v_4⟩
  refine lv_istore_n (lv' := [(3, .int x_4), (0, .ref (ad 0)), (1, .ref t0), (2, .int x0)]) hx hb dL_act_7 rfl hl (by decide) rfl (fun ls hl => ?_)
  refine lv_aload_n hx hb dL_act_8 rfl (lv_at hl 2 rfl) ?_
  refine va_get (D := D) (ci := 4) (v := .ref em) (C := RX4) (T := TX4) (N := 6) hx hb hts iX4 hown hK hP 24 rfl rfl 3 (by decide) (hts _ qw621) (fun _ h9 => h9) rfl dL_act_9 ?_
  refine rd_alen hx hb hK hP 2 (pl_mem em1 em3) rfl dL_act_12 (fun x_12 v_12 => ?_)
  have v_12 : x_12 = iI (↑(aN Z)) := v_12
  refine lv_istore (lv' := [(4, .int x_12), (3, .int x_4), (0, .ref (ad 0)), (1, .ref t0), (2, .int x0)]) hx hb dL_act_13 hl (by decide) rfl (fun ls hl => ?_)
  refine lv_aload_n hx hb dL_act_15 rfl (lv_at hl 3 rfl) ?_
  refine lv_iload_n hx hb dL_act_16 rfl (lv_at hl 1 rfl) ?_
  refine cp_r (wr := (clsW cI cZ ad cx)) (ws2 := fun u9 => (((clsW cI cZ ad cx) ++ [(t0, .inr (4, [.ref lw, .ref rk, .ref hs, .ref em, .int mt, .int qn]))]) ++ va_pl u9.1 u9.2)) (va_runV (As := [.int x_4]) (rest := []) ⟨hx, hb, hml, hown, hts⟩ (k_X4_all l D cI cZ cJ cK _ t0 x_4 lw rk hs em mt qn L f h (aN Z) (aH Z) (aM Z) (aK Z) (aL Z) (aG Z) (rwA Z) (hSP) (hh.trans (congrArg iI (by omega))) (hh2) (by rw [rw_all hI hh2]; have := (AI_len hI hh2).1; have := hI.1; omega)) (cwV 1 hts (gV qw525 qw489 qw490 qw14 qw491) rfl rfl rfl (by decide +kernel) ⟨Nat.le_of_ble_eq_true rfl, Nat.le_of_ble_eq_true rfl⟩) (pvP (ci := 4) (r := (RX4, TX4, 6)) (q0 := 24) (wr := (clsW cI cZ ad cx)) hP hD hK hT hZ hS (pm_1 _ _ _) rfl rfl) rfl rfl hl.1 rfl (lv_room (Nat.le_of_ble_eq_true rfl)) dL_act_17 ⟨Nat.le_of_ble_eq_true rfl, Nat.le_of_ble_eq_true rfl⟩) hS hP hD hA (pm_1 _ _ _) (fun _ => (pm_1 _ _ _).symm) (fun x_17 u_17 H locs hw_17 hP hD hS => ?_)
  obtain ⟨L2_17, f2_17⟩ := u_17
  have hP : va_P D vwCl (((clsW cI cZ ad cx) ++ [(t0, .inr (4, [.ref lw, .ref rk, .ref hs, .ref em, .int mt, .int qn]))]) ++ va_pl L2_17 f2_17) H := hP
  have hD : va_D A (((clsW cI cZ ad cx) ++ [(t0, .inr (4, [.ref lw, .ref rk, .ref hs, .ref em, .int mt, .int qn]))]) ++ va_pl L2_17 f2_17) := hD
  have hw_17 : (pExt L f L2_17 f2_17) ∧ (x_17 ∈ L2_17) ∧ (x_17 ∉ L) ∧ (rowE cI (catR ((rwA Z) h) 11) (f2_17 x_17)) := hw_17
  obtain ⟨e_17, i_17, o_17, v_17⟩ := hw_17
  rw [rw_all hI hh2] at v_17
  have hSP2 := SimP.ext hSP e_17
  obtain ⟨ga, hfa, hga⟩ := id v_17
  obtain ⟨m1, m2, m3⟩ := AI_len hI hh2
  have m4 := hI.1
  refine lv_astore (lv' := [(5, .ref x_17), (4, .int x_12), (3, .int x_4), (0, .ref (ad 0)), (1, .ref t0), (2, .int x0)]) hx hb dL_act_20 hl (by decide) rfl (fun ls hl => ?_)
  refine lv_iload_n hx hb dL_act_22 rfl (lv_at hl 5 rfl) ?_
  refine lz_bipush hx hb (by decide) dL_act_23 (fun x_23 v_23 => ?_)
  refine cr_i (va_runS (As := [.int x0, .int x_23]) (rest := []) ⟨hx, hb, hml, hown, hts⟩ (k_L_below l D cI cZ cJ cK _ x0 x_23 14 (v_23.trans (congrArg iI (by omega))) (by omega) (by omega)) (va_cwS 2 hts (gS qw513 qw514 qw9 qw515) rfl rfl rfl (by decide +kernel) ⟨Nat.le_of_ble_eq_true rfl, Nat.le_of_ble_eq_true rfl⟩) (ps hP hD hK hT hZ hS [] rfl rfl) rfl rfl hl.1 rfl (lv_room (Nat.le_of_ble_eq_true rfl)) dL_act_25 ⟨Nat.le_of_ble_eq_true rfl, Nat.le_of_ble_eq_true rfl⟩) hS hP (fun x_25 H locs hw_25 hP hS => ?_)
  have hw_25 : (x_25 = iI (↑(bel x0 14))) := hw_25
  have v_25 := hw_25
  have hb14 := bel_lt x0 (show 0 < 14 by decide)
  have t_28 : x_25.toInt = ↑(bel x0 14) := by rw [v_25]; exact iI_t (by omega)
  rcases (show ↑(bel x0 14) = 0 ∨ ↑(bel x0 14) = 1 ∨ ↑(bel x0 14) = 2 ∨ ↑(bel x0 14) = 3 ∨ ↑(bel x0 14) = 4 ∨ ↑(bel x0 14) = 5 ∨ (↑(bel x0 14) < 0 ∨ 5 < ↑(bel x0 14)) by omega) with c_28 | c_28 | c_28 | c_28 | c_28 | c_28 | c_28
  · exfalso; omega
  · exfalso; omega
  · exfalso; omega
  · exfalso; omega
  · refine lv_tableIn (off := 260) (tgt := 288) hx hb dL_act_28 (by rw [t_28]; omega) (by rw [t_28]; omega) (by rw [t_28, c_28]; rfl) (by decide) ?_
    clear qS
    obtain ⟨K, ha, ea, rr, qS⟩ := id hSP2
    obtain ⟨⟨lw1, lw2, gl, lw3, lw4⟩, ⟨rk1, rk2, gg, rk3, rk4⟩, ⟨hs1, hs2, gs, hs3, hs4⟩, ⟨em1, em2, ge, em3, em4⟩, q5, q6, q7⟩ := id qS
    refine lv_aload_n hx hb dL_act_288 rfl (lv_at hl 4 rfl) ?_
    refine va_get (D := D) (ci := 4) (v := .ref lw) (C := RX4) (T := TX4) (N := 6) hx hb hts iX4 hown hK hP 24 rfl rfl 0 (by decide) (hts _ qw617) (fun _ h9 => h9) rfl dL_act_289 ?_
    refine lv_iload_n hx hb dL_act_292 rfl (lv_at hl 2 rfl) ?_
    refine rd_iald hx hb hK hP 0 (pl_mem lw1 lw3) rfl hh (h) (by omega) (by omega) (by omega) dL_act_293 (fun x_293 e_293 => ?_)
    have v_293 : x_293 = iI (↑(aL Z h)) := e_293.trans (lw4 _ (by omega))
    refine lv_istore (lv' := [(7, .int x_293), (5, .ref x_17), (4, .int x_12), (3, .int x_4), (0, .ref (ad 0)), (1, .ref t0), (2, .int x0)]) hx hb dL_act_294 hl (by decide) rfl (fun ls hl => ?_)
    refine lv_iload hx hb dL_act_296 (lv_at hl 0 rfl) ?_
    refine lv_iload_n hx hb dL_act_298 rfl (lv_at hl 6 rfl) ?_
    refine lz_iconst hx hb dL_act_299 (fun x_299 v_299 => ?_)
    refine lv_ishr hx hb dL_act_300 ?_
    refine lv_topi (fun x_300 e_300 => ?_)
    refine lv_aload_n hx hb dL_act_301 rfl (lv_at hl 5 rfl) ?_
    refine lv_iload_n hx hb dL_act_302 rfl (lv_at hl 3 rfl) ?_
    refine cp_i (wr := (clsW cI cZ ad cx)) (ws2 := fun u9 => (((clsW cI cZ ad cx) ++ [(t0, .inr (4, [.ref lw, .ref rk, .ref hs, .ref em, .int mt, .int qn]))]) ++ va_pl u9.1 u9.2)) (va_runV (As := [.int x_4]) (rest := [.int x_300, .int x_293]) ⟨hx, hb, hml, hown, hts⟩ (k_X4_least l D cI cZ cJ cK _ t0 x_4 lw rk hs em mt qn L2_17 f2_17 h (aN Z) (aH Z) (aM Z) (aK Z) (aL Z) (aG Z) (rwA Z) (hSP2) (hh.trans (congrArg iI (by omega))) (by omega) (by rw [rw_all hI hh2]; omega) (by rw [rw_all hI hh2]; exact m2) (m4) (fun e he => (hI.2.1 e he).1)) (cwV 1 hts (gV qw552 qw496 qw497 qw14 qw498) rfl rfl rfl (by decide +kernel) ⟨Nat.le_of_ble_eq_true rfl, Nat.le_of_ble_eq_true rfl⟩) (pvP (ci := 4) (r := (RX4, TX4, 6)) (q0 := 24) (wr := (clsW cI cZ ad cx)) hP hD hK hT hZ hS (pm_1 _ _ _) rfl rfl) rfl rfl hl.1 rfl (lv_room (Nat.le_of_ble_eq_true rfl)) dL_act_303 ⟨Nat.le_of_ble_eq_true rfl, Nat.le_of_ble_eq_true rfl⟩) hS hP hD hA (pm_1 _ _ _) (fun _ => (pm_1 _ _ _).symm) (fun x_303 u_303 H locs hw_303 hP hD hS => ?_)
    obtain ⟨L2_303, f2_303⟩ := u_303
    have hP : va_P D vwCl (((clsW cI cZ ad cx) ++ [(t0, .inr (4, [.ref lw, .ref rk, .ref hs, .ref em, .int mt, .int qn]))]) ++ va_pl L2_303 f2_303) H := hP
    have hD : va_D A (((clsW cI cZ ad cx) ++ [(t0, .inr (4, [.ref lw, .ref rk, .ref hs, .ref em, .int mt, .int qn]))]) ++ va_pl L2_303 f2_303) := hD
    have hw_303 : (x_303 = iI (↑(minL (aH Z) (catR ((rwA Z) h) 11)))) ∧ (pExt L2_17 f2_17 L2_303 f2_303) := hw_303
    obtain ⟨v_303, e_303⟩ := hw_303
    have hv303 : x_303 = iI ↑(minL (aH Z) (aR Z h)) := by
      rw [v_303, rw_all hI hh2]
    have hmt9 := minL_top (aH Z) (aR Z h)
    obtain ⟨hlm9, hl4⟩ := lo_min hI hh2
    have hSP3 := SimP.ext hSP2 e_303
    clear qS
    refine lv_iload hx hb dL_act_306 (lv_at hl 0 rfl) ?_
    refine lz_isub hx hb hv303 v_293 dL_act_308 (fun x_308 v_308 => ?_)
    refine lz_iconst hx hb dL_act_309 (fun x_309 v_309 => ?_)
    refine lz_iadd hx hb v_308 v_309 dL_act_310 (fun x_310 v_310 => ?_)
    refine cr_i (va_runS (As := [.int x_300, .int x_310]) (rest := [.int x_293]) ⟨hx, hb, hml, hown, hts⟩ (k_L_below l D cI cZ cJ cK _ x_300 x_310 ((minL (aH Z) (aR Z h)) - (aL Z h) + 1) (v_310.trans (congrArg iI (by omega))) (by omega) (by omega)) (va_cwS 2 hts (gS qw513 qw514 qw9 qw515) rfl rfl rfl (by decide +kernel) ⟨Nat.le_of_ble_eq_true rfl, Nat.le_of_ble_eq_true rfl⟩) (ps hP hD hK hT hZ hS [] rfl rfl) rfl rfl hl.1 rfl (lv_room (Nat.le_of_ble_eq_true rfl)) dL_act_311 ⟨Nat.le_of_ble_eq_true rfl, Nat.le_of_ble_eq_true rfl⟩) hS hP (fun x_311 H locs hw_311 hP hS => ?_)
    have hw_311 : (x_311 = iI (↑(bel x_300 ((minL (aH Z) (aR Z h)) - (aL Z h) + 1)))) := hw_311
    have v_311 := hw_311
    have hb2 := bel_lt x_300 (k := minL (aH Z) (aR Z h) - aL Z h + 1) (by omega)
    refine lz_iadd hx hb v_293 v_311 dL_act_314 (fun x_314 v_314 => ?_)
    obtain ⟨xx, hxx⟩ : ∃ xx, xx = aL Z h + bel x_300 (minL (aH Z) (aR Z h) - aL Z h + 1) := ⟨_, rfl⟩
    have v_314 : x_314 = iI (↑xx) := v_314.trans (congrArg iI (by omega))
    refine lv_istore (lv' := [(8, .int x_314), (7, .int x_293), (5, .ref x_17), (4, .int x_12), (3, .int x_4), (0, .ref (ad 0)), (1, .ref t0), (2, .int x0)]) hx hb dL_act_315 hl (by decide) rfl (fun ls hl => ?_)
    refine lv_aload_n hx hb dL_act_317 rfl (lv_at hl 5 rfl) ?_
    refine lv_iload_n hx hb dL_act_318 rfl (lv_at hl 4 rfl) ?_
    refine lv_iload hx hb dL_act_319 (lv_at hl 0 rfl) ?_
    rcases (show (xx = aL Z h) ∨ (¬ xx = aL Z h) by omega) with q9 | q9
    · skip
      refine cp_i (wr := ([(t0, .inr (4, [.ref lw, .ref rk, .ref hs, .ref em, .int mt, .int qn]))] ++ va_pl L2_303 f2_303)) (ws2 := fun u9 => (((clsW cI cZ ad u9) ++ [(t0, .inr (4, [.ref lw, .ref rk, .ref hs, .ref em, .int mt, .int qn]))]) ++ va_pl L2_303 f2_303)) (va_runV (As := [.int x_4, .int x_314]) (rest := []) ⟨hx, hb, hml, hown, hts⟩ (k_X3_raise_PS l D cI cZ cJ cK _ x_4 x_314 ad Z cx h xx hl0 hC hI (hh.trans (congrArg iI (by omega))) (by omega) (v_314.trans (congrArg iI (by omega))) (by omega) (by omega) (q9)) (cwV 2 hts (gV qw553 qw554 qw555 qw10 qw556) rfl rfl rfl (by decide +kernel) ⟨Nat.le_of_ble_eq_true rfl, Nat.le_of_ble_eq_true rfl⟩) (pvP (ci := 3) (r := (RX3, TX3, 5)) (q0 := 0) (wr := ([(t0, .inr (4, [.ref lw, .ref rk, .ref hs, .ref em, .int mt, .int qn]))] ++ va_pl L2_303 f2_303)) hP hD hK hT hZ hS (pm_2 _ _ _) rfl rfl) rfl rfl hl.1 rfl (lv_room (Nat.le_of_ble_eq_true rfl)) dL_act_321 ⟨Nat.le_of_ble_eq_true rfl, Nat.le_of_ble_eq_true rfl⟩) hS hP hD hA (pm_2 _ _ _) (fun _ => (pm_2 _ _ _).symm) (fun x_321 u_321 H locs hw_321 hP hD hS => ?_)
      obtain ⟨cx2_321, rfl⟩ : ∃ z, z = u_321 := ⟨_, rfl⟩
      have hP : va_P D vwCl (((clsW cI cZ ad cx2_321) ++ [(t0, .inr (4, [.ref lw, .ref rk, .ref hs, .ref em, .int mt, .int qn]))]) ++ va_pl L2_303 f2_303) H := hP
      have hD : va_D A (((clsW cI cZ ad cx2_321) ++ [(t0, .inr (4, [.ref lw, .ref rk, .ref hs, .ref em, .int mt, .int qn]))]) ++ va_pl L2_303 f2_303) := hD
      have hw_321 : (x_321 = iI (0)) ∧ (CStx Z cx2_321) := hw_321
      obtain ⟨v_321, c_321⟩ := hw_321
      obtain ⟨K, ha, ea, rr, qS⟩ := id hSP3
      obtain ⟨⟨lw1, lw2, gl, lw3, lw4⟩, ⟨rk1, rk2, gg, rk3, rk4⟩, ⟨hs1, hs2, gs, hs3, hs4⟩, ⟨em1, em2, ge, em3, em4⟩, q5, q6, q7⟩ := id qS
      refine lv_aload_n hx hb dL_act_324 rfl (lv_at hl 6 rfl) ?_
      refine lv_iload_n hx hb dL_act_325 rfl (lv_at hl 4 rfl) ?_
      refine lv_iload hx hb dL_act_326 (lv_at hl 0 rfl) ?_
      refine cr_i (va_runV (As := [.int x_4, .int x_314]) (rest := [.int x_321]) ⟨hx, hb, hml, hown, hts⟩ (k_X4_raise_s l D cI cZ cJ cK _ t0 x_4 x_314 lw rk hs em mt qn L2_303 f2_303 h xx (aL Z h) (lw1) (⟨gl, lw3, lw4 h hh2⟩) (hh.trans (congrArg iI (by omega))) (by omega) (v_314.trans (congrArg iI (by omega))) (by omega) (by omega) (q9)) (cwV 2 hts (gV qw562 qw563 qw564 qw14 qw565) rfl rfl rfl (by decide +kernel) ⟨Nat.le_of_ble_eq_true rfl, Nat.le_of_ble_eq_true rfl⟩) (pvP (ci := 4) (r := (RX4, TX4, 6)) (q0 := 24) (wr := (clsW cI cZ ad cx2_321)) hP hD hK hT hZ hS (pm_1 _ _ _) rfl rfl) rfl rfl hl.1 rfl (lv_room (Nat.le_of_ble_eq_true rfl)) dL_act_328 ⟨Nat.le_of_ble_eq_true rfl, Nat.le_of_ble_eq_true rfl⟩) hS hP (fun x_328 H locs hw_328 hP hS => ?_)
      have hw_328 : (x_328 = iI (0)) := hw_328
      have v_328 := hw_328
      refine lz_icmp_ne (tgt := 338) hx hb v_321 v_328 ⟨by omega, by omega⟩ dL_act_331 (by decide) (fun c_331 => ?_) (fun c_331 => ?_)
      · exfalso; omega
      · refine lz_iconst hx hb dL_act_334 (fun x_334 v_334 => ?_)
        refine lv_goto (tgt := 339) hx hb dL_act_335 (by decide) ?_
        have hP9 := hP
        have hD9 := hD
        refine W.widen (k := 176) (n := 6417) (by omega) (by omega) ?_
        exact W.zret (v := x_334) (ty := .boolean) hx hb hr (by rw [v_334]; decide) (fun t ht hW => ⟨⟨x_334, ⟨Z, cx2_321, em, mt, qn, L2_303, f2_303⟩, rfl, ⟨v_334, c_321, hI, hPI, hSP3, hmt, hqn, fun _ k hk => Nat.le_refl _⟩, ⟨by rw [ht]; exact hP9, hD9⟩⟩, hS.F ht⟩) hS.2.2 dL_act_339
    · skip
      refine cp_i (wr := ([(t0, .inr (4, [.ref lw, .ref rk, .ref hs, .ref em, .int mt, .int qn]))] ++ va_pl L2_303 f2_303)) (ws2 := fun u9 => (((clsW cI cZ ad u9) ++ [(t0, .inr (4, [.ref lw, .ref rk, .ref hs, .ref em, .int mt, .int qn]))]) ++ va_pl L2_303 f2_303)) (va_runV (As := [.int x_4, .int x_314]) (rest := []) ⟨hx, hb, hml, hown, hts⟩ (k_X3_raise_PD l D cI cZ cJ cK _ x_4 x_314 ad Z cx h xx hl0 hC hI (hh.trans (congrArg iI (by omega))) (by omega) (v_314.trans (congrArg iI (by omega))) (by omega) (by omega) (q9)) (cwV 2 hts (gV qw553 qw554 qw555 qw10 qw556) rfl rfl rfl (by decide +kernel) ⟨Nat.le_of_ble_eq_true rfl, Nat.le_of_ble_eq_true rfl⟩) (pvP (ci := 3) (r := (RX3, TX3, 5)) (q0 := 0) (wr := ([(t0, .inr (4, [.ref lw, .ref rk, .ref hs, .ref em, .int mt, .int qn]))] ++ va_pl L2_303 f2_303)) hP hD hK hT hZ hS (pm_2 _ _ _) rfl rfl) rfl rfl hl.1 rfl (lv_room (Nat.le_of_ble_eq_true rfl)) dL_act_321 ⟨Nat.le_of_ble_eq_true rfl, Nat.le_of_ble_eq_true rfl⟩) hS hP hD hA (pm_2 _ _ _) (fun _ => (pm_2 _ _ _).symm) (fun x_321 u_321 H locs hw_321 hP hD hS => ?_)
      obtain ⟨cx2_321, rfl⟩ : ∃ z, z = u_321 := ⟨_, rfl⟩
      have hP : va_P D vwCl (((clsW cI cZ ad cx2_321) ++ [(t0, .inr (4, [.ref lw, .ref rk, .ref hs, .ref em, .int mt, .int qn]))]) ++ va_pl L2_303 f2_303) H := hP
      have hD : va_D A (((clsW cI cZ ad cx2_321) ++ [(t0, .inr (4, [.ref lw, .ref rk, .ref hs, .ref em, .int mt, .int qn]))]) ++ va_pl L2_303 f2_303) := hD
      have hw_321 : (x_321 = iI (↑(aR Z h).length)) ∧ (CStx (raiA Z h xx) cx2_321) := hw_321
      obtain ⟨v_321, c_321⟩ := hw_321
      obtain ⟨K, ha, ea, rr, qS⟩ := id hSP3
      obtain ⟨⟨lw1, lw2, gl, lw3, lw4⟩, ⟨rk1, rk2, gg, rk3, rk4⟩, ⟨hs1, hs2, gs, hs3, hs4⟩, ⟨em1, em2, ge, em3, em4⟩, q5, q6, q7⟩ := id qS
      refine lv_aload_n hx hb dL_act_324 rfl (lv_at hl 6 rfl) ?_
      refine lv_iload_n hx hb dL_act_325 rfl (lv_at hl 4 rfl) ?_
      refine lv_iload hx hb dL_act_326 (lv_at hl 0 rfl) ?_
      refine cp_i (wr := (clsW cI cZ ad cx2_321)) (ws2 := fun u9 => (((clsW cI cZ ad cx2_321) ++ [(t0, .inr (4, [.ref lw, .ref rk, .ref hs, .ref em, .int u9.1, .int qn]))]) ++ va_pl u9.2.1 u9.2.2)) (va_runV (As := [.int x_4, .int x_314]) (rest := [.int x_321]) ⟨hx, hb, hml, hown, hts⟩ (k_X4_raise_d l D cI cZ cJ cK _ t0 x_4 x_314 lw rk hs em mt qn L2_303 f2_303 h xx (aN Z) (aH Z) (aM Z) (aK Z) (aL Z) (aG Z) (rwA Z) (hSP3) (hh.trans (congrArg iI (by omega))) (by omega) (m4) (by rw [rw_all hI hh2]; omega) (by rw [rw_all hI hh2]; exact m2) (fun e he => (hI.2.1 e he).1) (v_314.trans (congrArg iI (by omega))) (by omega) (by omega) (q9)) (cwV 2 hts (gV qw562 qw563 qw564 qw14 qw565) rfl rfl rfl (by decide +kernel) ⟨Nat.le_of_ble_eq_true rfl, Nat.le_of_ble_eq_true rfl⟩) (pvP (ci := 4) (r := (RX4, TX4, 6)) (q0 := 24) (wr := (clsW cI cZ ad cx2_321)) hP hD hK hT hZ hS (pm_1 _ _ _) rfl rfl) rfl rfl hl.1 rfl (lv_room (Nat.le_of_ble_eq_true rfl)) dL_act_328 ⟨Nat.le_of_ble_eq_true rfl, Nat.le_of_ble_eq_true rfl⟩) hS hP hD hA (pm_1 _ _ _) (fun _ => (pm_1 _ _ _).symm) (fun x_328 u_328 H locs hw_328 hP hD hS => ?_)
      obtain ⟨m2_328, L2_328, f2_328⟩ := u_328
      have hP : va_P D vwCl (((clsW cI cZ ad cx2_321) ++ [(t0, .inr (4, [.ref lw, .ref rk, .ref hs, .ref em, .int m2_328, .int qn]))]) ++ va_pl L2_328 f2_328) H := hP
      have hD : va_D A (((clsW cI cZ ad cx2_321) ++ [(t0, .inr (4, [.ref lw, .ref rk, .ref hs, .ref em, .int m2_328, .int qn]))]) ++ va_pl L2_328 f2_328) := hD
      have hw_328 : (x_328 = iI (↑((catR ((rwA Z) h) 11).length))) ∧ (SimP cI cJ cK (aN Z) (aH Z) (mvA 1 (aM Z) (catR ((rwA Z) h) 11)) (aK Z) (va_up (aL Z) h xx) (aG Z) (mvR (ka xx (aH Z)) h (va_up (rwA Z) h (fun _ => [])) (catR ((rwA Z) h) 11)) lw rk hs em L2_328 f2_328) ∧ (m2_328 = mt + iI ↑(catR ((rwA Z) h) 11).length) := hw_328
      obtain ⟨v_328, w_328, m_328⟩ := hw_328
      have hv328 : x_328 = iI ↑((aR Z h).length) := by
        rw [v_328, rw_all hI hh2]
      have hSP4 := SM_rai hI hh2 (rw_all hI hh2) w_328
      refine lz_icmp_ne (tgt := 338) hx hb v_321 hv328 ⟨by omega, by omega⟩ dL_act_331 (by decide) (fun c_331 => ?_) (fun c_331 => ?_)
      · exfalso; omega
      · refine lz_iconst hx hb dL_act_334 (fun x_334 v_334 => ?_)
        refine lv_goto (tgt := 339) hx hb dL_act_335 (by decide) ?_
        have hP9 := hP
        have hD9 := hD
        refine W.widen (k := 176) (n := 6417) (by omega) (by omega) ?_
        exact W.zret (v := x_334) (ty := .boolean) hx hb hr (by rw [v_334]; decide) (fun t ht hW => ⟨⟨x_334, ⟨(raiA Z h xx), cx2_321, em, m2_328, qn, L2_328, f2_328⟩, rfl, ⟨v_334, c_321, AI_rai hI hh2 (by omega) (by omega), PI_rai hI hPI hh2, hSP4, m_328.trans (by rw [hmt, rw_all hI hh2]; rfl), hqn, fun _ k hk => low_rai (by omega) k⟩, ⟨by rw [ht]; exact hP9, hD9⟩⟩, hS.F ht⟩) hS.2.2 dL_act_339
  · exfalso; omega
  · exfalso; omega
