set_option maxHeartbeats 4000000 in
set_option maxRecDepth 100000 in
theorem k_L_act_e (l : Launch) (hl0 : l.stackTraces = false) (D : va_G) (cI cZ cJ cK : ClassId) (hz9 : Nat) (t0 : Nat) (x0 : Int32) (lw : Nat) (rk : Nat) (hs : Nat) (em : Nat) (mt : Int32) (qn : Int32) (L : List Nat) (f : Nat → va_E) (ad : Nat → Nat) (Z : va_AS) (cx : CX) (hC : CStx Z cx) (hI : AI Z) (hPI : PI Z) (hSP : SMA cI cJ cK Z lw rk hs em L f) (hmt : mt = aT Z) (hqn : qn = aQ Z) (hcs : bel x0 14 = 5) : Met l yL_act (wh_ yL_act cL_act 11 (Option.some .boolean) [(257, 265, 268, 65), (385, 392, 395, 65), (452, 461, 464, 65)]) ({ frames := 8, cells := 176, slots := 6417, locals := 143 }) (va_Pc [.ref (ad 0), .ref t0, .int x0] (wPre D cI cZ cJ cK hz9 (((clsW cI cZ ad cx) ++ [(t0, .inr (4, [.ref lw, .ref rk, .ref hs, .ref em, .int mt, .int qn]))]) ++ va_pl L f))) (va_Qi (fun r (u : va_AS × CX × Nat × Int32 × Int32 × List Nat × (Nat → va_E)) => (r = iI (1)) ∧ (CStx u.1 u.2.1) ∧ (AI u.1) ∧ (PI u.1) ∧ (SMA cI cJ cK u.1 lw rk hs u.2.2.1 u.2.2.2.2.2.1 u.2.2.2.2.2.2) ∧ (u.2.2.2.1 = aT u.1) ∧ (u.2.2.2.2.1 = aQ u.1) ∧ (bel x0 14 ≠ 5 → ∀ k, k < 2 → aL Z k ≤ aL u.1 k)) (fun (u : va_AS × CX × Nat × Int32 × Int32 × List Nat × (Nat → va_E)) t => wPost D (va_A (((clsW cI cZ ad cx) ++ [(t0, .inr (4, [.ref lw, .ref rk, .ref hs, .ref em, .int mt, .int qn]))]) ++ va_pl L f) hz9) (((clsW cI cZ ad u.2.1) ++ [(t0, .inr (4, [.ref lw, .ref rk, .ref hs, .ref u.2.2.1, .int u.2.2.2.1, .int u.2.2.2.2.1]))]) ++ va_pl u.2.2.2.2.2.1 u.2.2.2.2.2.2) t) (va_A (((clsW cI cZ ad cx) ++ [(t0, .inr (4, [.ref lw, .ref rk, .ref hs, .ref em, .int mt, .int qn]))]) ++ va_pl L f) hz9)) 176 6417 (va_A (((clsW cI cZ ad cx) ++ [(t0, .inr (4, [.ref lw, .ref rk, .ref hs, .ref em, .int mt, .int qn]))]) ++ va_pl L f) hz9) := by
  refine va_ofWH (cc := cL_act) (maxL := 11) (ret := (Option.some .boolean)) (hh := [(257, 265, 268, 65), (385, 392, 395, 65), (452, 461, 464, 65)]) (by decide) rfl ?_
  intro p e s m args below meth c s₁ hBd hml hv
  obtain ⟨rfl, hsz, hP, hD, hK, hT, hZ⟩ := hv
  have hx := hBd.exec
  have hb := hBd.bytes
  have hr := hBd.returns
  have hts : ∀ w ∈ lw_G, w.before _ s = true := fun w h => atoms_spec (ws := (wh_ yL_act cL_act 11 (Option.some .boolean) [(257, 265, 268, 65), (385, 392, 395, 65), (452, 461, 464, 65)])) hBd.pre w (List.mem_cons_of_mem _ h)
  have htab : c.exceptionTable.toList = [⟨257, 265, 268, 65⟩, ⟨385, 392, 395, 65⟩, ⟨452, 461, 464, 65⟩] := vx_table (x := yL_act) hBd (hts _ qw523)
  have hown : s.vm.findClass RL = some m.cls := findClass_of_methodNamed hBd.named
  have hlocks := hBd.notSynchronized
  subst hsz
  have hD := hD.self (sz := s.heap.size)
  have hZA := hZ.own hP
  generalize hAe : va_A (((clsW cI cZ ad cx) ++ [(t0, .inr (4, [.ref lw, .ref rk, .ref hs, .ref em, .int mt, .int qn]))]) ++ va_pl L f) s.heap.size = A at hD hZA ⊢
  have hA : ∀ q : Nat, s.heap.size ≤ q → A q := fun q h => by rw [← hAe]; exact Or.inr h
  have hZ := hZA
  have hS : va_S A s.heap s.heap [] := va_S.rf
  have hl := lv_entry ([.ref (ad 0), .ref t0, .int x0]) (n := 11) (Nat.le_of_ble_eq_true rfl)
  rw [lg_entry_eq]
  generalize (lg_sl ([.ref (ad 0), .ref t0, .int x0]) ++ List.replicate (11 - (lg_sl ([.ref (ad 0), .ref t0, .int x0])).length) Slot.unset).toArray = ls at hl ⊢
  have hl : lv_has ls 11 [(0, .ref (ad 0)), (1, .ref t0), (2, .int x0)] := hl
  have hP : va_P D vwCl (((clsW cI cZ ad cx) ++ [(t0, .inr (4, [.ref lw, .ref rk, .ref hs, .ref em, .int mt, .int qn]))]) ++ va_pl L f) s.heap := hP
  obtain ⟨K, ha, ea, rr, qS⟩ := id hSP
  obtain ⟨⟨lw1, lw2, gl, lw3, lw4⟩, ⟨rk1, rk2, gg, rk3, rk4⟩, ⟨hs1, hs2, gs, hs3, hs4⟩, ⟨em1, em2, ge, em3, em4⟩, q5, q6, q7⟩ := id qS
  refine lv_iload_n hx hb dL_act_0 rfl (lv_at hl 2 rfl) ?_
  refine lz_iconst hx hb dL_act_1 (fun x_1 v_1 => ?_)
  refine lv_ishr hx hb dL_act_2 ?_
  refine lv_topi (fun x_2 e_2 => ?_)
  refine lz_iconst hx hb dL_act_3 (fun x_3 v_3 => ?_)
  refine cr_i (va_runS (As := [.int x_2, .int x_3]) (rest := []) ⟨hx, hb, hml, hown, hts⟩ (k_L_below l D cI cZ cJ cK _ x_2 x_3 2 (v_3.trans (congrArg iI (by omega))) (by omega) (by omega)) (va_cwS 2 hts (gS qw513 qw514 qw9 qw515) rfl rfl rfl (by decide +kernel) ⟨Nat.le_of_ble_eq_true rfl, Nat.le_of_ble_eq_true rfl⟩) (ps hP hD hK hT hZ hS [] rfl rfl) rfl rfl hl.1 rfl (lv_room (Nat.le_of_ble_eq_true rfl)) dL_act_4 ⟨Nat.le_of_ble_eq_true rfl, Nat.le_of_ble_eq_true rfl⟩) hS hP (fun x_4 H locs hw_4 hP hS => ?_)
  have hw_4 : (x_4 = iI (↑(bel x_2 2))) := hw_4
  have v_4 := hw_4
  obtain ⟨h, hh2, hh⟩ : ∃ h : Nat, h < 2 ∧ x_4 = iI ↑h := ⟨_, bel_lt x_2 (by decide), v_4⟩
  refine lv_istore_n (lv' := [(3, .int x_4), (0, .ref (ad 0)), (1, .ref t0), (2, .int x0)]) hx hb dL_act_7 rfl hl (by decide) rfl (fun ls hl => ?_)
  refine lv_aload_n hx hb dL_act_8 rfl (lv_at hl 2 rfl) ?_
  refine va_get (D := D) (ci := 4) (v := .ref em) (C := RX4) (T := TX4) (N := 6) hx hb hts iX4 hown hK hP 24 rfl rfl 3 (by decide) (hts _ qw621) (fun _ h9 => h9) rfl dL_act_9 ?_
  refine rd_alen hx hb hK hP 2 (pl_mem em1 em3) rfl dL_act_12 (fun x_12 v_12 => ?_)
  have v_12 : x_12 = iI (↑(aN Z)) := v_12
  refine lv_istore (lv' := [(4, .int x_12), (3, .int x_4), (0, .ref (ad 0)), (1, .ref t0), (2, .int x0)]) hx hb dL_act_13 hl (by decide) rfl (fun ls hl => ?_)
  refine lv_aload_n hx hb dL_act_15 rfl (lv_at hl 3 rfl) ?_
  refine lv_iload_n hx hb dL_act_16 rfl (lv_at hl 1 rfl) ?_
  refine cp_r (wr := (clsW cI cZ ad cx)) (ws2 := fun u9 => (((clsW cI cZ ad cx) ++ [(t0, .inr (4, [.ref lw, .ref rk, .ref hs, .ref em, .int mt, .int qn]))]) ++ va_pl u9.1 u9.2)) (va_runV (As := [.int x_4]) (rest := []) ⟨hx, hb, hml, hown, hts⟩ (k_X4_all l D cI cZ cJ cK _ t0 x_4 lw rk hs em mt qn L f h (aN Z) (aH Z) (aM Z) (aK Z) (aL Z) (aG Z) (rwA Z) (hSP) (hh.trans (congrArg iI (by omega))) (hh2) (by rw [rw_all hI hh2]; have := (AI_len hI hh2).1; have := hI.1; omega)) (cwV 1 hts (gV qw525 qw489 qw490 qw14 qw491) rfl rfl rfl (by decide +kernel) ⟨Nat.le_of_ble_eq_true rfl, Nat.le_of_ble_eq_true rfl⟩) (pvP (ci := 4) (r := (RX4, TX4, 6)) (q0 := 24) (wr := (clsW cI cZ ad cx)) hP hD hK hT hZ hS (pm_1 _ _ _) rfl rfl) rfl rfl hl.1 rfl (lv_room (Nat.le_of_ble_eq_true rfl)) dL_act_17 ⟨Nat.le_of_ble_eq_true rfl, Nat.le_of_ble_eq_true rfl⟩) hS hP hD hA (pm_1 _ _ _) (fun _ => (pm_1 _ _ _).symm) (fun x_17 u_17 H locs hw_17 hP hD hS => ?_)
  obtain ⟨L2_17, f2_17⟩ := u_17
  have hP : va_P D vwCl (((clsW cI cZ ad cx) ++ [(t0, .inr (4, [.ref lw, .ref rk, .ref hs, .ref em, .int mt, .int qn]))]) ++ va_pl L2_17 f2_17) H := hP
  have hD : va_D A (((clsW cI cZ ad cx) ++ [(t0, .inr (4, [.ref lw, .ref rk, .ref hs, .ref em, .int mt, .int qn]))]) ++ va_pl L2_17 f2_17) := hD
  have hw_17 : (pExt L f L2_17 f2_17) ∧ (x_17 ∈ L2_17) ∧ (x_17 ∉ L) ∧ (rowE cI (catR ((rwA Z) h) 11) (f2_17 x_17)) := hw_17
  obtain ⟨e_17, i_17, o_17, v_17⟩ := hw_17
  rw [rw_all hI hh2] at v_17
  have hSP2 := SimP.ext hSP e_17
  obtain ⟨ga, hfa, hga⟩ := id v_17
  obtain ⟨m1, m2, m3⟩ := AI_len hI hh2
  have m4 := hI.1
  refine lv_astore (lv' := [(5, .ref x_17), (4, .int x_12), (3, .int x_4), (0, .ref (ad 0)), (1, .ref t0), (2, .int x0)]) hx hb dL_act_20 hl (by decide) rfl (fun ls hl => ?_)
  refine lv_iload_n hx hb dL_act_22 rfl (lv_at hl 5 rfl) ?_
  refine lz_bipush hx hb (by decide) dL_act_23 (fun x_23 v_23 => ?_)
  refine cr_i (va_runS (As := [.int x0, .int x_23]) (rest := []) ⟨hx, hb, hml, hown, hts⟩ (k_L_below l D cI cZ cJ cK _ x0 x_23 14 (v_23.trans (congrArg iI (by omega))) (by omega) (by omega)) (va_cwS 2 hts (gS qw513 qw514 qw9 qw515) rfl rfl rfl (by decide +kernel) ⟨Nat.le_of_ble_eq_true rfl, Nat.le_of_ble_eq_true rfl⟩) (ps hP hD hK hT hZ hS [] rfl rfl) rfl rfl hl.1 rfl (lv_room (Nat.le_of_ble_eq_true rfl)) dL_act_25 ⟨Nat.le_of_ble_eq_true rfl, Nat.le_of_ble_eq_true rfl⟩) hS hP (fun x_25 H locs hw_25 hP hS => ?_)
  have hw_25 : (x_25 = iI (↑(bel x0 14))) := hw_25
  have v_25 := hw_25
  have hb14 := bel_lt x0 (show 0 < 14 by decide)
  have t_28 : x_25.toInt = ↑(bel x0 14) := by rw [v_25]; exact iI_t (by omega)
  rcases (show ↑(bel x0 14) = 0 ∨ ↑(bel x0 14) = 1 ∨ ↑(bel x0 14) = 2 ∨ ↑(bel x0 14) = 3 ∨ ↑(bel x0 14) = 4 ∨ ↑(bel x0 14) = 5 ∨ (↑(bel x0 14) < 0 ∨ 5 < ↑(bel x0 14)) by omega) with c_28 | c_28 | c_28 | c_28 | c_28 | c_28 | c_28
  · exfalso; omega
  · exfalso; omega
  · exfalso; omega
  · exfalso; omega
  · exfalso; omega
  · refine lv_tableIn (off := 312) (tgt := 340) hx hb dL_act_28 (by rw [t_28]; omega) (by rw [t_28]; omega) (by rw [t_28, c_28]; rfl) (by decide) ?_
    refine lv_aload hx hb dL_act_340 (lv_at hl 0 rfl) ?_
    refine rd_alen hx hb hK hP 0 (pl_mem i_17 hfa) rfl dL_act_342 (fun x_342 v_342 => ?_)
    have v_342 : x_342 = iI (↑((aR Z h).length)) := v_342
    refine lz_if_eq (tgt := 362) hx hb v_342 (by omega) dL_act_343 (by decide) (fun c_343 => ?_) (fun c_343 => ?_)
    · have hcan : aR Z h = [] ∨ aL Z (1 - h) ≤ minL (aH Z) (aR Z h) := Or.inl (List.eq_nil_of_length_eq_zero (by omega))
      have hSP3 := hSP2
      have hl1 := (hI.2.2.1 (1 - h) (by omega)).2.2
      clear qS
      refine lz_iconst hx hb dL_act_362 (fun x_362 v_362 => ?_)
      refine lv_goto (tgt := 367) hx hb dL_act_363 (by decide) ?_
      refine lv_istore (lv' := [(7, .int x_362), (5, .ref x_17), (4, .int x_12), (3, .int x_4), (0, .ref (ad 0)), (1, .ref t0), (2, .int x0)]) hx hb dL_act_367 hl (by decide) rfl (fun ls hl => ?_)
      refine lv_iload hx hb dL_act_369 (lv_at hl 0 rfl) ?_
      refine lz_if_eq (tgt := 382) hx hb v_362 (by omega) dL_act_371 (by decide) (fun c_371 => ?_) (fun c_371 => ?_)
      · exfalso; omega
      · refine lv_aload_n hx hb dL_act_374 rfl (lv_at hl 5 rfl) ?_
        refine lv_iload_n hx hb dL_act_375 rfl (lv_at hl 3 rfl) ?_
        refine cp_i (wr := (clsW cI cZ ad cx)) (ws2 := fun u9 => (((clsW cI cZ ad cx) ++ [(t0, .inr (4, [.ref lw, .ref rk, .ref hs, .ref em, .int u9.1, .int qn]))]) ++ va_pl u9.2.1 u9.2.2)) (va_runV (As := [.int x_4]) (rest := []) ⟨hx, hb, hml, hown, hts⟩ (k_X4_pour l D cI cZ cJ cK _ t0 x_4 lw rk hs em mt qn L2_17 f2_17 h (aN Z) (aH Z) (aM Z) (aK Z) (aL Z) (aG Z) (rwA Z) (hSP3) (hh.trans (congrArg iI (by omega))) (by omega) (m4) (by rw [rw_all hI hh2]; omega) (by rw [rw_all hI hh2]; exact m2) (fun e he => (hI.2.1 e he).1) (hl1) (fun b _ => by rw [rw_all hI hh2]; exact pou_len hI hh2 b)) (cwV 1 hts (gV qw568 qw569 qw570 qw14 qw571) rfl rfl rfl (by decide +kernel) ⟨Nat.le_of_ble_eq_true rfl, Nat.le_of_ble_eq_true rfl⟩) (pvP (ci := 4) (r := (RX4, TX4, 6)) (q0 := 24) (wr := (clsW cI cZ ad cx)) hP hD hK hT hZ hS (pm_1 _ _ _) rfl rfl) rfl rfl hl.1 rfl (lv_room (Nat.le_of_ble_eq_true rfl)) dL_act_376 ⟨Nat.le_of_ble_eq_true rfl, Nat.le_of_ble_eq_true rfl⟩) hS hP hD hA (pm_1 _ _ _) (fun _ => (pm_1 _ _ _).symm) (fun x_376 u_376 H locs hw_376 hP hD hS => ?_)
        obtain ⟨m2_376, L2_376, f2_376⟩ := u_376
        have hP : va_P D vwCl (((clsW cI cZ ad cx) ++ [(t0, .inr (4, [.ref lw, .ref rk, .ref hs, .ref em, .int m2_376, .int qn]))]) ++ va_pl L2_376 f2_376) H := hP
        have hD : va_D A (((clsW cI cZ ad cx) ++ [(t0, .inr (4, [.ref lw, .ref rk, .ref hs, .ref em, .int m2_376, .int qn]))]) ++ va_pl L2_376 f2_376) := hD
        have hw_376 : (x_376 = iI (↑((catR ((rwA Z) h) 11).length))) ∧ (SimP cI cJ cK (aN Z) (aH Z) (mvA 1 (aM Z) (catR ((rwA Z) h) 11)) (aK Z) (va_up (aL Z) h 0) (aG Z) (mvR (ka ((aL Z) (1 - h)) (aH Z)) (1 - h) (va_up (rwA Z) h (fun _ => [])) (catR ((rwA Z) h) 11)) lw rk hs em L2_376 f2_376) ∧ (m2_376 = mt + iI ↑(catR ((rwA Z) h) 11).length) := hw_376
        obtain ⟨v_376, w_376, m_376⟩ := hw_376
        have hv376 : x_376 = iI ↑((aR Z h).length) := by
          rw [v_376, rw_all hI hh2]
        have hSP4 := SM_pou hI hh2 (rw_all hI hh2) w_376
        refine lv_goto (tgt := 383) hx hb dL_act_379 (by decide) ?_
        refine lv_istore (lv' := [(8, .int x_376), (7, .int x_362), (5, .ref x_17), (4, .int x_12), (3, .int x_4), (0, .ref (ad 0)), (1, .ref t0), (2, .int x0)]) hx hb dL_act_383 hl (by decide) rfl (fun ls hl => ?_)
        refine lv_aload_n hx hb dL_act_385 rfl (lv_at hl 5 rfl) ?_
        refine lv_iload_n hx hb dL_act_386 rfl (lv_at hl 4 rfl) ?_
        refine cpx_i (wr := ([(t0, .inr (4, [.ref lw, .ref rk, .ref hs, .ref em, .int m2_376, .int qn]))] ++ va_pl L2_376 f2_376)) (ws2 := fun u9 => (((clsW cI cZ ad u9) ++ [(t0, .inr (4, [.ref lw, .ref rk, .ref hs, .ref em, .int m2_376, .int qn]))]) ++ va_pl L2_376 f2_376)) (vx_runV (As := [.int x_4]) (rest := []) ⟨hx, hb, hml, hown, hts⟩ (k_X3_pour_P l hl0 D cI cZ cJ cK _ x_4 ad Z cx h hC hI (hh.trans (congrArg iI (by omega))) (by omega)) (cwV 1 hts (gV qw572 qw573 qw574 qw10 qw575) rfl rfl rfl (by decide +kernel) ⟨Nat.le_of_ble_eq_true rfl, Nat.le_of_ble_eq_true rfl⟩) (pvP (ci := 3) (r := (RX3, TX3, 5)) (q0 := 0) (wr := ([(t0, .inr (4, [.ref lw, .ref rk, .ref hs, .ref em, .int m2_376, .int qn]))] ++ va_pl L2_376 f2_376)) hP hD hK hT hZ hS (pm_2 _ _ _) rfl rfl) rfl rfl hl.1 rfl (lv_room (Nat.le_of_ble_eq_true rfl)) dL_act_387 ⟨Nat.le_of_ble_eq_true rfl, Nat.le_of_ble_eq_true rfl⟩) hS hP hD hA (pm_2 _ _ _) (fun _ => (pm_2 _ _ _).symm) (fun E9 ce9 q9 H locs hE9 hP hS hq9 hv9 hc9 => ?_) (fun x_387 u_387 H locs hw_387 hP hD hS => ?_)
        · exact absurd hE9 ((fun z => z.2 hcan))
        refine id ?_
        obtain ⟨cx2_387, rfl⟩ : ∃ z, z = u_387 := ⟨_, rfl⟩
        have hP : va_P D vwCl (((clsW cI cZ ad cx2_387) ++ [(t0, .inr (4, [.ref lw, .ref rk, .ref hs, .ref em, .int m2_376, .int qn]))]) ++ va_pl L2_376 f2_376) H := hP
        have hD : va_D A (((clsW cI cZ ad cx2_387) ++ [(t0, .inr (4, [.ref lw, .ref rk, .ref hs, .ref em, .int m2_376, .int qn]))]) ++ va_pl L2_376 f2_376) := hD
        have hw_387 : (x_387 = iI (↑(aR Z h).length)) ∧ (aR Z h = [] ∨ aL Z (1 - h) ≤ minL (aH Z) (aR Z h)) ∧ (CStx (pouA Z h) cx2_387) := hw_387
        obtain ⟨v_387, b_387, c_387⟩ := hw_387
        refine lv_istore (lv' := [(6, .int x_387), (8, .int x_376), (7, .int x_362), (5, .ref x_17), (4, .int x_12), (3, .int x_4), (0, .ref (ad 0)), (1, .ref t0), (2, .int x0)]) hx hb dL_act_390 hl (by decide) rfl (fun ls hl => ?_)
        refine lv_goto (tgt := 400) hx hb dL_act_392 (by decide) ?_
        refine lv_iload hx hb dL_act_400 (lv_at hl 0 rfl) ?_
        refine lv_iload hx hb dL_act_402 (lv_at hl 1 rfl) ?_
        refine lz_icmp_ne (tgt := 411) hx hb v_387 hv376 ⟨by omega, by omega⟩ dL_act_404 (by decide) (fun c_404 => ?_) (fun c_404 => ?_)
        · exfalso; omega
        · refine lz_iconst hx hb dL_act_407 (fun x_407 v_407 => ?_)
          refine lv_goto (tgt := 412) hx hb dL_act_408 (by decide) ?_
          have hP9 := hP
          have hD9 := hD
          refine W.widen (k := 176) (n := 6417) (by omega) (by omega) ?_
          exact W.zret (v := x_407) (ty := .boolean) hx hb hr (by rw [v_407]; decide) (fun t ht hW => ⟨⟨x_407, ⟨(pouA Z h), cx2_387, em, m2_376, qn, L2_376, f2_376⟩, rfl, ⟨v_407, c_387, AI_pou hI hh2 hcan, PI_pou hI hPI hh2, hSP4, m_376.trans (by rw [hmt, rw_all hI hh2]; rfl), hqn, fun z => absurd hcs z⟩, ⟨by rw [ht]; exact hP9, hD9⟩⟩, hS.F ht⟩) hS.2.2 dL_act_412
    · refine lv_aload_n hx hb dL_act_346 rfl (lv_at hl 4 rfl) ?_
      refine lv_iload_n hx hb dL_act_347 rfl (lv_at hl 2 rfl) ?_
      refine cp_i (wr := (clsW cI cZ ad cx)) (ws2 := fun u9 => (((clsW cI cZ ad cx) ++ [(t0, .inr (4, [.ref lw, .ref rk, .ref hs, .ref em, .int mt, .int qn]))]) ++ va_pl u9.1 u9.2)) (va_runV (As := [.int x_4]) (rest := []) ⟨hx, hb, hml, hown, hts⟩ (k_X4_least l D cI cZ cJ cK _ t0 x_4 lw rk hs em mt qn L2_17 f2_17 h (aN Z) (aH Z) (aM Z) (aK Z) (aL Z) (aG Z) (rwA Z) (hSP2) (hh.trans (congrArg iI (by omega))) (by omega) (by rw [rw_all hI hh2]; omega) (by rw [rw_all hI hh2]; exact m2) (m4) (fun e he => (hI.2.1 e he).1)) (cwV 1 hts (gV qw552 qw496 qw497 qw14 qw498) rfl rfl rfl (by decide +kernel) ⟨Nat.le_of_ble_eq_true rfl, Nat.le_of_ble_eq_true rfl⟩) (pvP (ci := 4) (r := (RX4, TX4, 6)) (q0 := 24) (wr := (clsW cI cZ ad cx)) hP hD hK hT hZ hS (pm_1 _ _ _) rfl rfl) rfl rfl hl.1 rfl (lv_room (Nat.le_of_ble_eq_true rfl)) dL_act_348 ⟨Nat.le_of_ble_eq_true rfl, Nat.le_of_ble_eq_true rfl⟩) hS hP hD hA (pm_1 _ _ _) (fun _ => (pm_1 _ _ _).symm) (fun x_348 u_348 H locs hw_348 hP hD hS => ?_)
      obtain ⟨L2_348, f2_348⟩ := u_348
      have hP : va_P D vwCl (((clsW cI cZ ad cx) ++ [(t0, .inr (4, [.ref lw, .ref rk, .ref hs, .ref em, .int mt, .int qn]))]) ++ va_pl L2_348 f2_348) H := hP
      have hD : va_D A (((clsW cI cZ ad cx) ++ [(t0, .inr (4, [.ref lw, .ref rk, .ref hs, .ref em, .int mt, .int qn]))]) ++ va_pl L2_348 f2_348) := hD
      have hw_348 : (x_348 = iI (↑(minL (aH Z) (catR ((rwA Z) h) 11)))) ∧ (pExt L2_17 f2_17 L2_348 f2_348) := hw_348
      obtain ⟨v_348, e_348⟩ := hw_348
      have hv348 : x_348 = iI ↑(minL (aH Z) (aR Z h)) := by
        rw [v_348, rw_all hI hh2]
      have hmt9 := minL_top (aH Z) (aR Z h)
      obtain ⟨hlm9, hl4⟩ := lo_min hI hh2
      have hSP3 := SimP.ext hSP2 e_348
      clear qS
      have hl1 := (hI.2.2.1 (1 - h) (by omega)).2.2
      obtain ⟨K, ha, ea, rr, qS⟩ := id hSP3
      obtain ⟨⟨lw1, lw2, gl, lw3, lw4⟩, ⟨rk1, rk2, gg, rk3, rk4⟩, ⟨hs1, hs2, gs, hs3, hs4⟩, ⟨em1, em2, ge, em3, em4⟩, q5, q6, q7⟩ := id qS
      refine lv_aload_n hx hb dL_act_351 rfl (lv_at hl 4 rfl) ?_
      refine va_get (D := D) (ci := 4) (v := .ref lw) (C := RX4) (T := TX4) (N := 6) hx hb hts iX4 hown hK hP 24 rfl rfl 0 (by decide) (hts _ qw617) (fun _ h9 => h9) rfl dL_act_352 ?_
      refine lz_iconst hx hb dL_act_355 (fun x_355 v_355 => ?_)
      refine lv_iload_n hx hb dL_act_356 rfl (lv_at hl 2 rfl) ?_
      refine lz_isub hx hb v_355 hh dL_act_357 (fun x_357 v_357 => ?_)
      refine rd_iald hx hb hK hP 0 (pl_mem lw1 lw3) rfl v_357 (1 - h) (by omega) (by omega) (by omega) dL_act_358 (fun x_358 e_358 => ?_)
      have v_358 : x_358 = iI (↑(aL Z (1 - h))) := e_358.trans (lw4 _ (by omega))
      refine lz_icmp_lt (tgt := 366) hx hb hv348 v_358 ⟨by omega, by omega⟩ dL_act_359 (by decide) (fun c_359 => ?_) (fun c_359 => ?_)
      · have hcan : ¬ (aR Z h = [] ∨ aL Z (1 - h) ≤ minL (aH Z) (aR Z h)) := by
          rintro (z | z)
          · exact c_343 (by rw [z]; rfl)
          · omega
        clear qS
        refine lz_iconst hx hb dL_act_366 (fun x_366 v_366 => ?_)
        refine lv_istore (lv' := [(7, .int x_366), (5, .ref x_17), (4, .int x_12), (3, .int x_4), (0, .ref (ad 0)), (1, .ref t0), (2, .int x0)]) hx hb dL_act_367 hl (by decide) rfl (fun ls hl => ?_)
        refine lv_iload hx hb dL_act_369 (lv_at hl 0 rfl) ?_
        refine lz_if_eq (tgt := 382) hx hb v_366 (by omega) dL_act_371 (by decide) (fun c_371 => ?_) (fun c_371 => ?_)
        · refine lz_iconst hx hb dL_act_382 (fun x_382 v_382 => ?_)
          refine lv_istore (lv' := [(8, .int x_382), (7, .int x_366), (5, .ref x_17), (4, .int x_12), (3, .int x_4), (0, .ref (ad 0)), (1, .ref t0), (2, .int x0)]) hx hb dL_act_383 hl (by decide) rfl (fun ls hl => ?_)
          refine lv_aload_n hx hb dL_act_385 rfl (lv_at hl 5 rfl) ?_
          refine lv_iload_n hx hb dL_act_386 rfl (lv_at hl 4 rfl) ?_
          refine cpx_i (wr := ([(t0, .inr (4, [.ref lw, .ref rk, .ref hs, .ref em, .int mt, .int qn]))] ++ va_pl L2_348 f2_348)) (ws2 := fun u9 => (((clsW cI cZ ad u9) ++ [(t0, .inr (4, [.ref lw, .ref rk, .ref hs, .ref em, .int mt, .int qn]))]) ++ va_pl L2_348 f2_348)) (vx_runV (As := [.int x_4]) (rest := []) ⟨hx, hb, hml, hown, hts⟩ (k_X3_pour_P l hl0 D cI cZ cJ cK _ x_4 ad Z cx h hC hI (hh.trans (congrArg iI (by omega))) (by omega)) (cwV 1 hts (gV qw572 qw573 qw574 qw10 qw575) rfl rfl rfl (by decide +kernel) ⟨Nat.le_of_ble_eq_true rfl, Nat.le_of_ble_eq_true rfl⟩) (pvP (ci := 3) (r := (RX3, TX3, 5)) (q0 := 0) (wr := ([(t0, .inr (4, [.ref lw, .ref rk, .ref hs, .ref em, .int mt, .int qn]))] ++ va_pl L2_348 f2_348)) hP hD hK hT hZ hS (pm_2 _ _ _) rfl rfl) rfl rfl hl.1 rfl (lv_room (Nat.le_of_ble_eq_true rfl)) dL_act_387 ⟨Nat.le_of_ble_eq_true rfl, Nat.le_of_ble_eq_true rfl⟩) hS hP hD hA (pm_2 _ _ _) (fun _ => (pm_2 _ _ _).symm) (fun E9 ce9 q9 H locs hE9 hP hS hq9 hv9 hc9 => ?_) (fun x_387 u_387 H locs hw_387 hP hD hS => ?_)
          · obtain ⟨rfl, -⟩ := hE9
            refine vx_catch (name := xS) hown [⟨257, 265, 268, 65⟩] ⟨385, 392, 395, 65⟩ [⟨452, 461, 464, 65⟩] htab (hp_1 (Or.inl (by decide)) hp_0) (by decide) (by decide) (hts _ qw524) (va_Nw.use rfl (hT.1 _ nw192)) hq9 hv9 hc9 ?_
            have hP : va_P D vwCl (((clsW cI cZ ad cx) ++ [(t0, .inr (4, [.ref lw, .ref rk, .ref hs, .ref em, .int mt, .int qn]))]) ++ va_pl L2_348 f2_348) H := hP
            have hD : va_D A (((clsW cI cZ ad cx) ++ [(t0, .inr (4, [.ref lw, .ref rk, .ref hs, .ref em, .int mt, .int qn]))]) ++ va_pl L2_348 f2_348) := hD
            refine lv_astore (lv' := [(9, .ref q9), (8, .int x_382), (7, .int x_366), (5, .ref x_17), (4, .int x_12), (3, .int x_4), (0, .ref (ad 0)), (1, .ref t0), (2, .int x0)]) hx hb dL_act_395 hl (by decide) rfl (fun ls hl => ?_)
            refine lz_iconst hx hb dL_act_397 (fun x_397 v_397 => ?_)
            refine lv_istore (lv' := [(6, .int x_397), (9, .ref q9), (8, .int x_382), (7, .int x_366), (5, .ref x_17), (4, .int x_12), (3, .int x_4), (0, .ref (ad 0)), (1, .ref t0), (2, .int x0)]) hx hb dL_act_398 hl (by decide) rfl (fun ls hl => ?_)
            refine lv_iload hx hb dL_act_400 (lv_at hl 0 rfl) ?_
            refine lv_iload hx hb dL_act_402 (lv_at hl 2 rfl) ?_
            refine lz_icmp_ne (tgt := 411) hx hb v_397 v_382 ⟨by omega, by omega⟩ dL_act_404 (by decide) (fun c_404 => ?_) (fun c_404 => ?_)
            · exfalso; omega
            · refine lz_iconst hx hb dL_act_407 (fun x_407 v_407 => ?_)
              refine lv_goto (tgt := 412) hx hb dL_act_408 (by decide) ?_
              have hP9 := hP
              have hD9 := hD
              refine W.widen (k := 176) (n := 6417) (by omega) (by omega) ?_
              exact W.zret (v := x_407) (ty := .boolean) hx hb hr (by rw [v_407]; decide) (fun t ht hW => ⟨⟨x_407, ⟨Z, cx, em, mt, qn, L2_348, f2_348⟩, rfl, ⟨v_407, hC, hI, hPI, hSP3, hmt, hqn, fun _ k hk => Nat.le_refl _⟩, ⟨by rw [ht]; exact hP9, hD9⟩⟩, hS.F ht⟩) hS.2.2 dL_act_412
          refine id ?_
          exact absurd hw_387.2.1 hcan
        · exfalso; omega
      · have hcan : aR Z h = [] ∨ aL Z (1 - h) ≤ minL (aH Z) (aR Z h) := Or.inr (by omega)
        clear qS
        refine lz_iconst hx hb dL_act_362 (fun x_362 v_362 => ?_)
        refine lv_goto (tgt := 367) hx hb dL_act_363 (by decide) ?_
        refine lv_istore (lv' := [(7, .int x_362), (5, .ref x_17), (4, .int x_12), (3, .int x_4), (0, .ref (ad 0)), (1, .ref t0), (2, .int x0)]) hx hb dL_act_367 hl (by decide) rfl (fun ls hl => ?_)
        refine lv_iload hx hb dL_act_369 (lv_at hl 0 rfl) ?_
        refine lz_if_eq (tgt := 382) hx hb v_362 (by omega) dL_act_371 (by decide) (fun c_371 => ?_) (fun c_371 => ?_)
        · exfalso; omega
        · refine lv_aload_n hx hb dL_act_374 rfl (lv_at hl 5 rfl) ?_
          refine lv_iload_n hx hb dL_act_375 rfl (lv_at hl 3 rfl) ?_
          refine cp_i (wr := (clsW cI cZ ad cx)) (ws2 := fun u9 => (((clsW cI cZ ad cx) ++ [(t0, .inr (4, [.ref lw, .ref rk, .ref hs, .ref em, .int u9.1, .int qn]))]) ++ va_pl u9.2.1 u9.2.2)) (va_runV (As := [.int x_4]) (rest := []) ⟨hx, hb, hml, hown, hts⟩ (k_X4_pour l D cI cZ cJ cK _ t0 x_4 lw rk hs em mt qn L2_348 f2_348 h (aN Z) (aH Z) (aM Z) (aK Z) (aL Z) (aG Z) (rwA Z) (hSP3) (hh.trans (congrArg iI (by omega))) (by omega) (m4) (by rw [rw_all hI hh2]; omega) (by rw [rw_all hI hh2]; exact m2) (fun e he => (hI.2.1 e he).1) (hl1) (fun b _ => by rw [rw_all hI hh2]; exact pou_len hI hh2 b)) (cwV 1 hts (gV qw568 qw569 qw570 qw14 qw571) rfl rfl rfl (by decide +kernel) ⟨Nat.le_of_ble_eq_true rfl, Nat.le_of_ble_eq_true rfl⟩) (pvP (ci := 4) (r := (RX4, TX4, 6)) (q0 := 24) (wr := (clsW cI cZ ad cx)) hP hD hK hT hZ hS (pm_1 _ _ _) rfl rfl) rfl rfl hl.1 rfl (lv_room (Nat.le_of_ble_eq_true rfl)) dL_act_376 ⟨Nat.le_of_ble_eq_true rfl, Nat.le_of_ble_eq_true rfl⟩) hS hP hD hA (pm_1 _ _ _) (fun _ => (pm_1 _ _ _).symm) (fun x_376 u_376 H locs hw_376 hP hD hS => ?_)
          obtain ⟨m2_376, L2_376, f2_376⟩ := u_376
          have hP : va_P D vwCl (((clsW cI cZ ad cx) ++ [(t0, .inr (4, [.ref lw, .ref rk, .ref hs, .ref em, .int m2_376, .int qn]))]) ++ va_pl L2_376 f2_376) H := hP
          have hD : va_D A (((clsW cI cZ ad cx) ++ [(t0, .inr (4, [.ref lw, .ref rk, .ref hs, .ref em, .int m2_376, .int qn]))]) ++ va_pl L2_376 f2_376) := hD
          have hw_376 : (x_376 = iI (↑((catR ((rwA Z) h) 11).length))) ∧ (SimP cI cJ cK (aN Z) (aH Z) (mvA 1 (aM Z) (catR ((rwA Z) h) 11)) (aK Z) (va_up (aL Z) h 0) (aG Z) (mvR (ka ((aL Z) (1 - h)) (aH Z)) (1 - h) (va_up (rwA Z) h (fun _ => [])) (catR ((rwA Z) h) 11)) lw rk hs em L2_376 f2_376) ∧ (m2_376 = mt + iI ↑(catR ((rwA Z) h) 11).length) := hw_376
          obtain ⟨v_376, w_376, m_376⟩ := hw_376
          have hv376 : x_376 = iI ↑((aR Z h).length) := by
            rw [v_376, rw_all hI hh2]
          have hSP4 := SM_pou hI hh2 (rw_all hI hh2) w_376
          refine lv_goto (tgt := 383) hx hb dL_act_379 (by decide) ?_
          refine lv_istore (lv' := [(8, .int x_376), (7, .int x_362), (5, .ref x_17), (4, .int x_12), (3, .int x_4), (0, .ref (ad 0)), (1, .ref t0), (2, .int x0)]) hx hb dL_act_383 hl (by decide) rfl (fun ls hl => ?_)
          refine lv_aload_n hx hb dL_act_385 rfl (lv_at hl 5 rfl) ?_
          refine lv_iload_n hx hb dL_act_386 rfl (lv_at hl 4 rfl) ?_
          refine cpx_i (wr := ([(t0, .inr (4, [.ref lw, .ref rk, .ref hs, .ref em, .int m2_376, .int qn]))] ++ va_pl L2_376 f2_376)) (ws2 := fun u9 => (((clsW cI cZ ad u9) ++ [(t0, .inr (4, [.ref lw, .ref rk, .ref hs, .ref em, .int m2_376, .int qn]))]) ++ va_pl L2_376 f2_376)) (vx_runV (As := [.int x_4]) (rest := []) ⟨hx, hb, hml, hown, hts⟩ (k_X3_pour_P l hl0 D cI cZ cJ cK _ x_4 ad Z cx h hC hI (hh.trans (congrArg iI (by omega))) (by omega)) (cwV 1 hts (gV qw572 qw573 qw574 qw10 qw575) rfl rfl rfl (by decide +kernel) ⟨Nat.le_of_ble_eq_true rfl, Nat.le_of_ble_eq_true rfl⟩) (pvP (ci := 3) (r := (RX3, TX3, 5)) (q0 := 0) (wr := ([(t0, .inr (4, [.ref lw, .ref rk, .ref hs, .ref em, .int m2_376, .int qn]))] ++ va_pl L2_376 f2_376)) hP hD hK hT hZ hS (pm_2 _ _ _) rfl rfl) rfl rfl hl.1 rfl (lv_room (Nat.le_of_ble_eq_true rfl)) dL_act_387 ⟨Nat.le_of_ble_eq_true rfl, Nat.le_of_ble_eq_true rfl⟩) hS hP hD hA (pm_2 _ _ _) (fun _ => (pm_2 _ _ _).symm) (fun E9 ce9 q9 H locs hE9 hP hS hq9 hv9 hc9 => ?_) (fun x_387 u_387 H locs hw_387 hP hD hS => ?_)
          · exact absurd hE9 ((fun z => z.2 hcan))
          refine id ?_
          obtain ⟨cx2_387, rfl⟩ : ∃ z, z = u_387 := ⟨_, rfl⟩
          have hP : va_P D vwCl (((clsW cI cZ ad cx2_387) ++ [(t0, .inr (4, [.ref lw, .ref rk, .ref hs, .ref em, .int m2_376, .int qn]))]) ++ va_pl L2_376 f2_376) H := hP
          have hD : va_D A (((clsW cI cZ ad cx2_387) ++ [(t0, .inr (4, [.ref lw, .ref rk, .ref hs, .ref em, .int m2_376, .int qn]))]) ++ va_pl L2_376 f2_376) := hD
          have hw_387 : (x_387 = iI (↑(aR Z h).length)) ∧ (aR Z h = [] ∨ aL Z (1 - h) ≤ minL (aH Z) (aR Z h)) ∧ (CStx (pouA Z h) cx2_387) := hw_387
          obtain ⟨v_387, b_387, c_387⟩ := hw_387
          refine lv_istore (lv' := [(6, .int x_387), (8, .int x_376), (7, .int x_362), (5, .ref x_17), (4, .int x_12), (3, .int x_4), (0, .ref (ad 0)), (1, .ref t0), (2, .int x0)]) hx hb dL_act_390 hl (by decide) rfl (fun ls hl => ?_)
          refine lv_goto (tgt := 400) hx hb dL_act_392 (by decide) ?_
          refine lv_iload hx hb dL_act_400 (lv_at hl 0 rfl) ?_
          refine lv_iload hx hb dL_act_402 (lv_at hl 1 rfl) ?_
          refine lz_icmp_ne (tgt := 411) hx hb v_387 hv376 ⟨by omega, by omega⟩ dL_act_404 (by decide) (fun c_404 => ?_) (fun c_404 => ?_)
          · exfalso; omega
          · refine lz_iconst hx hb dL_act_407 (fun x_407 v_407 => ?_)
            refine lv_goto (tgt := 412) hx hb dL_act_408 (by decide) ?_
            have hP9 := hP
            have hD9 := hD
            refine W.widen (k := 176) (n := 6417) (by omega) (by omega) ?_
            exact W.zret (v := x_407) (ty := .boolean) hx hb hr (by rw [v_407]; decide) (fun t ht hW => ⟨⟨x_407, ⟨(pouA Z h), cx2_387, em, m2_376, qn, L2_376, f2_376⟩, rfl, ⟨v_407, c_387, AI_pou hI hh2 hcan, PI_pou hI hPI hh2, hSP4, m_376.trans (by rw [hmt, rw_all hI hh2]; rfl), hqn, fun z => absurd hcs z⟩, ⟨by rw [ht]; exact hP9, hD9⟩⟩, hS.F ht⟩) hS.2.2 dL_act_412
  · exfalso; omega
