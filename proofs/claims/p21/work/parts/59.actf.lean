set_option maxHeartbeats 4000000 in
set_option maxRecDepth 100000 in
theorem k_L_act_f (l : Launch) (hl0 : l.stackTraces = false) (D : va_G) (cI cZ cJ cK : ClassId) (hz9 : Nat) (t0 : Nat) (x0 : Int32) (lw : Nat) (rk : Nat) (hs : Nat) (em : Nat) (mt : Int32) (qn : Int32) (L : List Nat) (f : Nat → va_E) (ad : Nat → Nat) (Z : va_AS) (cx : CX) (hC : CStx Z cx) (hI : AI Z) (hPI : PI Z) (hSP : SMA cI cJ cK Z lw rk hs em L f) (hmt : mt = aT Z) (hqn : qn = aQ Z) (hcs : 6 ≤ bel x0 14) : Met l yL_act (wh_ yL_act cL_act 11 (Option.some .boolean) [(257, 265, 268, 65), (385, 392, 395, 65), (452, 461, 464, 65)]) ({ frames := 8, cells := 176, slots := 6417, locals := 143 }) (va_Pc [.ref (ad 0), .ref t0, .int x0] (wPre D cI cZ cJ cK hz9 (((clsW cI cZ ad cx) ++ [(t0, .inr (4, [.ref lw, .ref rk, .ref hs, .ref em, .int mt, .int qn]))]) ++ va_pl L f))) (va_Qi (fun r (u : va_AS × CX × Nat × Int32 × Int32 × List Nat × (Nat → va_E)) => (r = iI (1)) ∧ (CStx u.1 u.2.1) ∧ (AI u.1) ∧ (PI u.1) ∧ (SMA cI cJ cK u.1 lw rk hs u.2.2.1 u.2.2.2.2.2.1 u.2.2.2.2.2.2) ∧ (u.2.2.2.1 = aT u.1) ∧ (u.2.2.2.2.1 = aQ u.1) ∧ (bel x0 14 ≠ 5 → ∀ k, k < 2 → aL Z k ≤ aL u.1 k)) (fun (u : va_AS × CX × Nat × Int32 × Int32 × List Nat × (Nat → va_E)) t => wPost D (va_A (((clsW cI cZ ad cx) ++ [(t0, .inr (4, [.ref lw, .ref rk, .ref hs, .ref em, .int mt, .int qn]))]) ++ va_pl L f) hz9) (((clsW cI cZ ad u.2.1) ++ [(t0, .inr (4, [.ref lw, .ref rk, .ref hs, .ref u.2.2.1, .int u.2.2.2.1, .int u.2.2.2.2.1]))]) ++ va_pl u.2.2.2.2.2.1 u.2.2.2.2.2.2) t) (va_A (((clsW cI cZ ad cx) ++ [(t0, .inr (4, [.ref lw, .ref rk, .ref hs, .ref em, .int mt, .int qn]))]) ++ va_pl L f) hz9)) 176 6417 (va_A (((clsW cI cZ ad cx) ++ [(t0, .inr (4, [.ref lw, .ref rk, .ref hs, .ref em, .int mt, .int qn]))]) ++ va_pl L f) hz9) := by
  refine va_ofWH (cc := cL_act) (maxL := 11) (ret := (Option.some .boolean)) (hh := [(257, 265, 268, 65), (385, 392, 395, 65), (452, 461, 464, 65)]) (by decide) rfl ?_
  intro p e s m args below meth c s₁ hBd hml hv
  obtain ⟨rfl, hsz, hP, hD, hK, hT, hZ⟩ := hv
  have hx := hBd.exec
  have hb := hBd.bytes
  have hr := hBd.returns
  have hts : ∀ w ∈ lw_G, w.before _ s = true := fun w h => atoms_spec (ws := (wh_ yL_act cL_act 11 (Option.some .boolean) [(257, 265, 268, 65), (385, 392, 395, 65), (452, 461, 464, 65)])) hBd.pre w (List.mem_cons_of_mem _ h)
  have htab : c.exceptionTable.toList = [⟨257, 265, 268, 65⟩, ⟨385, 392, 395, 65⟩, ⟨452, 461, 464, 65⟩] := vx_table (x := yL_act) hBd (hts _ qw523)
  have hown : s.vm.findClass RL = some m.cls := findClass_of_methodNamed hBd.named
  have hlocks := hBd.notSynchronized
  subst hsz
  have hD := hD.self (sz := s.heap.size)
  have hZA := hZ.own hP
  generalize hAe : va_A (((clsW cI cZ ad cx) ++ [(t0, .inr (4, [.ref lw, .ref rk, .ref hs, .ref em, .int mt, .int qn]))]) ++ va_pl L f) s.heap.size = A at hD hZA ⊢
  have hA : ∀ q : Nat, s.heap.size ≤ q → A q := fun q h => by rw [← hAe]; exact Or.inr h
  have hZ := hZA
  have hS : va_S A s.heap s.heap [] := va_S.rf
  have hl := lv_entry ([.ref (ad 0), .ref t0, .int x0]) (n := 11) (Nat.le_of_ble_eq_true rfl)
  rw [lg_entry_eq]
  generalize (lg_sl ([.ref (ad 0), .ref t0, .int x0]) ++ List.replicate (11 - (lg_sl ([.ref (ad 0), .ref t0, .int x0])).length) Slot.unset).toArray = ls at hl ⊢
  have hl : lv_has ls 11 [(0, .ref (ad 0)), (1, .ref t0), (2, .int x0)] := hl
  have hP : va_P D vwCl (((clsW cI cZ ad cx) ++ [(t0, .inr (4, [.ref lw, .ref rk, .ref hs, .ref em, .int mt, .int qn]))]) ++ va_pl L f) s.heap := hP
  obtain ⟨K, ha, ea, rr, qS⟩ := id hSP
  obtain ⟨⟨lw1, lw2, gl, lw3, lw4⟩, ⟨rk1, rk2, gg, rk3, rk4⟩, ⟨hs1, hs2, gs, hs3, hs4⟩, ⟨em1, em2, ge, em3, em4⟩, q5, q6, q7⟩ := id qS
  refine lv_iload_n hx hb dL_act_0 rfl (lv_at hl 2 rfl) ?_
  refine lz_iconst hx hb dL_act_1 (fun x_1 v_1 => ?_)
  refine lv_ishr hx hb dL_act_2 ?_
  refine lv_topi (fun x_2 e_2 => ?_)
  refine lz_iconst hx hb dL_act_3 (fun x_3 v_3 => ?_)
  refine cr_i (va_runS (As := [.int x_2, .int x_3]) (rest := []) ⟨hx, hb, hml, hown, hts⟩ (k_L_below l D cI cZ cJ cK _ x_2 x_3 2 (v_3.trans (congrArg iI (by omega))) (by omega) (by omega)) (va_cwS 2 hts (gS qw513 qw514 qw9 qw515) rfl rfl rfl (by decide +kernel) ⟨Nat.le_of_ble_eq_true rfl, Nat.le_of_ble_eq_true rfl⟩) (ps hP hD hK hT hZ hS [] rfl rfl) rfl rfl hl.1 rfl (lv_room (Nat.le_of_ble_eq_true rfl)) dL_act_4 ⟨Nat.le_of_ble_eq_true rfl, Nat.le_of_ble_eq_true rfl⟩) hS hP (fun x_4 H locs hw_4 hP hS => ?_)
  have hw_4 : (x_4 = iI (↑(bel x_2 2))) := hw_4
  have v_4 := hw_4
  obtain ⟨h, hh2, hh⟩ : ∃ h : Nat, h < 2 ∧ x_4 = iI ↑h := ⟨_, bel_lt x_2 (by decide), v_4⟩
  refine lv_istore_n (lv' := [(3, .int x_4), (0, .ref (ad 0)), (1, .ref t0), (2, .int x0)]) hx hb dL_act_7 rfl hl (by decide) rfl (fun ls hl => ?_)
  refine lv_aload_n hx hb dL_act_8 rfl (lv_at hl 2 rfl) ?_
  refine va_get (D := D) (ci := 4) (v := .ref em) (C := RX4) (T := TX4) (N := 6) hx hb hts iX4 hown hK hP 24 rfl rfl 3 (by decide) (hts _ qw621) (fun _ h9 => h9) rfl dL_act_9 ?_
  refine rd_alen hx hb hK hP 2 (pl_mem em1 em3) rfl dL_act_12 (fun x_12 v_12 => ?_)
  have v_12 : x_12 = iI (↑(aN Z)) := v_12
  refine lv_istore (lv' := [(4, .int x_12), (3, .int x_4), (0, .ref (ad 0)), (1, .ref t0), (2, .int x0)]) hx hb dL_act_13 hl (by decide) rfl (fun ls hl => ?_)
  refine lv_aload_n hx hb dL_act_15 rfl (lv_at hl 3 rfl) ?_
  refine lv_iload_n hx hb dL_act_16 rfl (lv_at hl 1 rfl) ?_
  refine cp_r (wr := (clsW cI cZ ad cx)) (ws2 := fun u9 => (((clsW cI cZ ad cx) ++ [(t0, .inr (4, [.ref lw, .ref rk, .ref hs, .ref em, .int mt, .int qn]))]) ++ va_pl u9.1 u9.2)) (va_runV (As := [.int x_4]) (rest := []) ⟨hx, hb, hml, hown, hts⟩ (k_X4_all l D cI cZ cJ cK _ t0 x_4 lw rk hs em mt qn L f h (aN Z) (aH Z) (aM Z) (aK Z) (aL Z) (aG Z) (rwA Z) (hSP) (hh.trans (congrArg iI (by omega))) (hh2) (by rw [rw_all hI hh2]; have := (AI_len hI hh2).1; have := hI.1; omega)) (cwV 1 hts (gV qw525 qw489 qw490 qw14 qw491) rfl rfl rfl (by decide +kernel) ⟨Nat.le_of_ble_eq_true rfl, Nat.le_of_ble_eq_true rfl⟩) (pvP (ci := 4) (r := (RX4, TX4, 6)) (q0 := 24) (wr := (clsW cI cZ ad cx)) hP hD hK hT hZ hS (pm_1 _ _ _) rfl rfl) rfl rfl hl.1 rfl (lv_room (Nat.le_of_ble_eq_true rfl)) dL_act_17 ⟨Nat.le_of_ble_eq_true rfl, Nat.le_of_ble_eq_true rfl⟩) hS hP hD hA (pm_1 _ _ _) (fun _ => (pm_1 _ _ _).symm) (fun x_17 u_17 H locs hw_17 hP hD hS => ?_)
  obtain ⟨L2_17, f2_17⟩ := u_17
  have hP : va_P D vwCl (((clsW cI cZ ad cx) ++ [(t0, .inr (4, [.ref lw, .ref rk, .ref hs, .ref em, .int mt, .int qn]))]) ++ va_pl L2_17 f2_17) H := hP
  have hD : va_D A (((clsW cI cZ ad cx) ++ [(t0, .inr (4, [.ref lw, .ref rk, .ref hs, .ref em, .int mt, .int qn]))]) ++ va_pl L2_17 f2_17) := hD
  have hw_17 : (pExt L f L2_17 f2_17) ∧ (x_17 ∈ L2_17) ∧ (x_17 ∉ L) ∧ (rowE cI (catR ((rwA Z) h) 11) (f2_17 x_17)) := hw_17
  obtain ⟨e_17, i_17, o_17, v_17⟩ := hw_17
  rw [rw_all hI hh2] at v_17
  have hSP2 := SimP.ext hSP e_17
  obtain ⟨ga, hfa, hga⟩ := id v_17
  obtain ⟨m1, m2, m3⟩ := AI_len hI hh2
  have m4 := hI.1
  refine lv_astore (lv' := [(5, .ref x_17), (4, .int x_12), (3, .int x_4), (0, .ref (ad 0)), (1, .ref t0), (2, .int x0)]) hx hb dL_act_20 hl (by decide) rfl (fun ls hl => ?_)
  refine lv_iload_n hx hb dL_act_22 rfl (lv_at hl 5 rfl) ?_
  refine lz_bipush hx hb (by decide) dL_act_23 (fun x_23 v_23 => ?_)
  refine cr_i (va_runS (As := [.int x0, .int x_23]) (rest := []) ⟨hx, hb, hml, hown, hts⟩ (k_L_below l D cI cZ cJ cK _ x0 x_23 14 (v_23.trans (congrArg iI (by omega))) (by omega) (by omega)) (va_cwS 2 hts (gS qw513 qw514 qw9 qw515) rfl rfl rfl (by decide +kernel) ⟨Nat.le_of_ble_eq_true rfl, Nat.le_of_ble_eq_true rfl⟩) (ps hP hD hK hT hZ hS [] rfl rfl) rfl rfl hl.1 rfl (lv_room (Nat.le_of_ble_eq_true rfl)) dL_act_25 ⟨Nat.le_of_ble_eq_true rfl, Nat.le_of_ble_eq_true rfl⟩) hS hP (fun x_25 H locs hw_25 hP hS => ?_)
  have hw_25 : (x_25 = iI (↑(bel x0 14))) := hw_25
  have v_25 := hw_25
  have hb14 := bel_lt x0 (show 0 < 14 by decide)
  have t_28 : x_25.toInt = ↑(bel x0 14) := by rw [v_25]; exact iI_t (by omega)
  rcases (show ↑(bel x0 14) = 0 ∨ ↑(bel x0 14) = 1 ∨ ↑(bel x0 14) = 2 ∨ ↑(bel x0 14) = 3 ∨ ↑(bel x0 14) = 4 ∨ ↑(bel x0 14) = 5 ∨ (↑(bel x0 14) < 0 ∨ 5 < ↑(bel x0 14)) by omega) with c_28 | c_28 | c_28 | c_28 | c_28 | c_28 | c_28
  · exfalso; omega
  · exfalso; omega
  · exfalso; omega
  · exfalso; omega
  · exfalso; omega
  · exfalso; omega
  · refine lv_tableOut (tgt := 413) hx hb dL_act_28 (by rw [t_28]; omega) (by decide) ?_
    clear qS
    have hl4 := (hI.2.2.1 h hh2).2.2
    obtain ⟨K, ha, ea, rr, qS⟩ := id hSP2
    obtain ⟨⟨lw1, lw2, gl, lw3, lw4⟩, ⟨rk1, rk2, gg, rk3, rk4⟩, ⟨hs1, hs2, gs, hs3, hs4⟩, ⟨em1, em2, ge, em3, em4⟩, q5, q6, q7⟩ := id qS
    refine lv_iload_n hx hb dL_act_413 rfl (lv_at hl 5 rfl) ?_
    refine lv_aload_n hx hb dL_act_414 rfl (lv_at hl 4 rfl) ?_
    refine va_get (D := D) (ci := 4) (v := .ref lw) (C := RX4) (T := TX4) (N := 6) hx hb hts iX4 hown hK hP 24 rfl rfl 0 (by decide) (hts _ qw617) (fun _ h9 => h9) rfl dL_act_415 ?_
    refine lv_iload_n hx hb dL_act_418 rfl (lv_at hl 2 rfl) ?_
    refine rd_iald hx hb hK hP 0 (pl_mem lw1 lw3) rfl hh (h) (by omega) (by omega) (by omega) dL_act_419 (fun x_419 e_419 => ?_)
    have v_419 : x_419 = iI (↑(aL Z h)) := e_419.trans (lw4 _ (by omega))
    refine cr_i (va_runS (As := [.int x0, .int x_419]) (rest := []) ⟨hx, hb, hml, hown, hts⟩ (k_L_heatOf l D cI cZ cJ cK _ x0 x_419 (aL Z h) (v_419.trans (congrArg iI (by omega))) (by omega)) (va_cwS 2 hts (gS qw588 qw589 qw9 qw590) rfl rfl rfl (by decide +kernel) ⟨Nat.le_of_ble_eq_true rfl, Nat.le_of_ble_eq_true rfl⟩) (ps hP hD hK hT hZ hS [] rfl rfl) rfl rfl hl.1 rfl (lv_room (Nat.le_of_ble_eq_true rfl)) dL_act_420 ⟨Nat.le_of_ble_eq_true rfl, Nat.le_of_ble_eq_true rfl⟩) hS hP (fun x_420 H locs hw_420 hP hS => ?_)
    have hw_420 : (∃ x : Nat, x_420 = iI (↑x) ∧ (aL Z h) ≤ x ∧ x < 1024) := hw_420
    have v_420 := hw_420
    obtain ⟨xx, hxv, hxl, hx4⟩ := v_420
    refine lv_istore (lv' := [(7, .int x_420), (5, .ref x_17), (4, .int x_12), (3, .int x_4), (0, .ref (ad 0)), (1, .ref t0), (2, .int x0)]) hx hb dL_act_423 hl (by decide) rfl (fun ls hl => ?_)
    refine lv_iload hx hb dL_act_425 (lv_at hl 2 rfl) ?_
    refine lz_bipush hx hb (by decide) dL_act_427 (fun x_427 v_427 => ?_)
    refine lz_icmp_ge (tgt := 436) hx hb v_12 v_427 ⟨by omega, by omega⟩ dL_act_429 (by decide) (fun c_429 => ?_) (fun c_429 => ?_)
    · refine lz_iconst hx hb dL_act_436 (fun x_436 v_436 => ?_)
      refine lv_istore (lv' := [(8, .int x_436), (7, .int x_420), (5, .ref x_17), (4, .int x_12), (3, .int x_4), (0, .ref (ad 0)), (1, .ref t0), (2, .int x0)]) hx hb dL_act_437 hl (by decide) rfl (fun ls hl => ?_)
      refine lv_iload hx hb dL_act_439 (lv_at hl 0 rfl) ?_
      refine lz_if_eq (tgt := 452) hx hb v_436 (by omega) dL_act_441 (by decide) (fun c_441 => ?_) (fun c_441 => ?_)
      · refine lv_aload_n hx hb dL_act_452 rfl (lv_at hl 5 rfl) ?_
        refine lv_iload_n hx hb dL_act_453 rfl (lv_at hl 4 rfl) ?_
        refine lv_iload hx hb dL_act_454 (lv_at hl 1 rfl) ?_
        refine cpx_i (wr := ([(t0, .inr (4, [.ref lw, .ref rk, .ref hs, .ref em, .int mt, .int qn]))] ++ va_pl L2_17 f2_17)) (ws2 := fun u9 => (((clsW cI cZ ad u9) ++ [(t0, .inr (4, [.ref lw, .ref rk, .ref hs, .ref em, .int mt, .int qn]))]) ++ va_pl L2_17 f2_17)) (vx_runV (As := [.int x_4, .int x_420]) (rest := []) ⟨hx, hb, hml, hown, hts⟩ (k_X3_light_P l hl0 D cI cZ cJ cK _ x_4 x_420 ad Z cx h xx hC hI (hh.trans (congrArg iI (by omega))) (by omega) (hxv.trans (congrArg iI (by omega))) (by omega) (by omega)) (cwV 2 hts (gV qw597 qw598 qw599 qw10 qw600) rfl rfl rfl (by decide +kernel) ⟨Nat.le_of_ble_eq_true rfl, Nat.le_of_ble_eq_true rfl⟩) (pvP (ci := 3) (r := (RX3, TX3, 5)) (q0 := 0) (wr := ([(t0, .inr (4, [.ref lw, .ref rk, .ref hs, .ref em, .int mt, .int qn]))] ++ va_pl L2_17 f2_17)) hP hD hK hT hZ hS (pm_2 _ _ _) rfl rfl) rfl rfl hl.1 rfl (lv_room (Nat.le_of_ble_eq_true rfl)) dL_act_456 ⟨Nat.le_of_ble_eq_true rfl, Nat.le_of_ble_eq_true rfl⟩) hS hP hD hA (pm_2 _ _ _) (fun _ => (pm_2 _ _ _).symm) (fun E9 ce9 q9 H locs hE9 hP hS hq9 hv9 hc9 => ?_) (fun x_456 u_456 H locs hw_456 hP hD hS => ?_)
        · obtain ⟨rfl, -⟩ := hE9
          refine vx_catch (name := xS) hown [⟨257, 265, 268, 65⟩, ⟨385, 392, 395, 65⟩] ⟨452, 461, 464, 65⟩ [] htab (hp_1 (Or.inl (by decide)) (hp_1 (Or.inl (by decide)) hp_0)) (by decide) (by decide) (hts _ qw524) (va_Nw.use rfl (hT.1 _ nw192)) hq9 hv9 hc9 ?_
          have hP : va_P D vwCl (((clsW cI cZ ad cx) ++ [(t0, .inr (4, [.ref lw, .ref rk, .ref hs, .ref em, .int mt, .int qn]))]) ++ va_pl L2_17 f2_17) H := hP
          have hD : va_D A (((clsW cI cZ ad cx) ++ [(t0, .inr (4, [.ref lw, .ref rk, .ref hs, .ref em, .int mt, .int qn]))]) ++ va_pl L2_17 f2_17) := hD
          refine lv_astore (lv' := [(9, .ref q9), (8, .int x_436), (7, .int x_420), (5, .ref x_17), (4, .int x_12), (3, .int x_4), (0, .ref (ad 0)), (1, .ref t0), (2, .int x0)]) hx hb dL_act_464 hl (by decide) rfl (fun ls hl => ?_)
          refine lz_iconst hx hb dL_act_466 (fun x_466 v_466 => ?_)
          refine lv_istore (lv' := [(6, .int x_466), (9, .ref q9), (8, .int x_436), (7, .int x_420), (5, .ref x_17), (4, .int x_12), (3, .int x_4), (0, .ref (ad 0)), (1, .ref t0), (2, .int x0)]) hx hb dL_act_467 hl (by decide) rfl (fun ls hl => ?_)
          refine lv_iload hx hb dL_act_469 (lv_at hl 0 rfl) ?_
          refine lv_iload hx hb dL_act_471 (lv_at hl 2 rfl) ?_
          refine lz_if_eq (tgt := 481) hx hb v_436 (by omega) dL_act_473 (by decide) (fun c_473 => ?_) (fun c_473 => ?_)
          · refine lz_iconst hx hb dL_act_481 (fun x_481 v_481 => ?_)
            refine lz_icmp_ne (tgt := 489) hx hb v_466 v_481 ⟨by omega, by omega⟩ dL_act_482 (by decide) (fun c_482 => ?_) (fun c_482 => ?_)
            · exfalso; omega
            · refine lz_iconst hx hb dL_act_485 (fun x_485 v_485 => ?_)
              refine lv_goto (tgt := 490) hx hb dL_act_486 (by decide) ?_
              have hP9 := hP
              have hD9 := hD
              refine W.widen (k := 176) (n := 6417) (by omega) (by omega) ?_
              exact W.zret (v := x_485) (ty := .boolean) hx hb hr (by rw [v_485]; decide) (fun t ht hW => ⟨⟨x_485, ⟨Z, cx, em, mt, qn, L2_17, f2_17⟩, rfl, ⟨v_485, hC, hI, hPI, hSP2, hmt, hqn, fun _ k hk => Nat.le_refl _⟩, ⟨by rw [ht]; exact hP9, hD9⟩⟩, hS.F ht⟩) hS.2.2 dL_act_490
          · exfalso; omega
        refine id ?_
        exact absurd hw_456.2.1 (by omega)
      · exfalso; omega
    · refine lz_iconst hx hb dL_act_432 (fun x_432 v_432 => ?_)
      refine lv_goto (tgt := 437) hx hb dL_act_433 (by decide) ?_
      refine lv_istore (lv' := [(8, .int x_432), (7, .int x_420), (5, .ref x_17), (4, .int x_12), (3, .int x_4), (0, .ref (ad 0)), (1, .ref t0), (2, .int x0)]) hx hb dL_act_437 hl (by decide) rfl (fun ls hl => ?_)
      refine lv_iload hx hb dL_act_439 (lv_at hl 0 rfl) ?_
      refine lz_if_eq (tgt := 452) hx hb v_432 (by omega) dL_act_441 (by decide) (fun c_441 => ?_) (fun c_441 => ?_)
      · exfalso; omega
      · refine lv_aload_n hx hb dL_act_444 rfl (lv_at hl 6 rfl) ?_
        refine lv_iload_n hx hb dL_act_445 rfl (lv_at hl 4 rfl) ?_
        refine lv_iload hx hb dL_act_446 (lv_at hl 1 rfl) ?_
        refine cp_i (wr := (clsW cI cZ ad cx)) (ws2 := fun u9 => (((clsW cI cZ ad cx) ++ [(t0, .inr (4, [.ref lw, .ref rk, .ref hs, .ref u9.1, .int mt, .int qn]))]) ++ va_pl u9.2.1 u9.2.2)) (va_runV (As := [.int x_4, .int x_420]) (rest := []) ⟨hx, hb, hml, hown, hts⟩ (k_X4_light l D cI cZ cJ cK _ t0 x_4 x_420 lw rk hs em mt qn L2_17 f2_17 h xx (aN Z) (aH Z) (aM Z) (aK Z) (aL Z) (aG Z) (rwA Z) (hSP2) (hh.trans (congrArg iI (by omega))) (by omega) (hxv.trans (congrArg iI (by omega))) (hx4) (by omega) (hl4) (fun b _ => Nat.le_trans (rw_len Z h b) (by omega)) (hPI.1 _ (Nat.le_refl _)) (hI.2.2.2.2 (aN Z) (by omega) (Or.inl (Nat.le_refl _)))) (cwV 2 hts (gV qw592 qw593 qw594 qw14 qw595) rfl rfl rfl (by decide +kernel) ⟨Nat.le_of_ble_eq_true rfl, Nat.le_of_ble_eq_true rfl⟩) (pvP (ci := 4) (r := (RX4, TX4, 6)) (q0 := 24) (wr := (clsW cI cZ ad cx)) hP hD hK hT hZ hS (pm_1 _ _ _) rfl rfl) rfl rfl hl.1 rfl (lv_room (Nat.le_of_ble_eq_true rfl)) dL_act_448 ⟨Nat.le_of_ble_eq_true rfl, Nat.le_of_ble_eq_true rfl⟩) hS hP hD hA (pm_1 _ _ _) (fun _ => (pm_1 _ _ _).symm) (fun x_448 u_448 H locs hw_448 hP hD hS => ?_)
        obtain ⟨em2_448, L2_448, f2_448⟩ := u_448
        have hP : va_P D vwCl (((clsW cI cZ ad cx) ++ [(t0, .inr (4, [.ref lw, .ref rk, .ref hs, .ref em2_448, .int mt, .int qn]))]) ++ va_pl L2_448 f2_448) H := hP
        have hD : va_D A (((clsW cI cZ ad cx) ++ [(t0, .inr (4, [.ref lw, .ref rk, .ref hs, .ref em2_448, .int mt, .int qn]))]) ++ va_pl L2_448 f2_448) := hD
        have hw_448 : (x_448 = iI (↑(aN Z))) ∧ (SimP cI cJ cK ((aN Z) + 1) (va_up (aH Z) (aN Z) xx) (aM Z) (aK Z) (aL Z) (aG Z) (putR (ka ((aL Z) h) (va_up (aH Z) (aN Z) xx)) h (rwA Z) (aN Z)) lw rk hs em2_448 L2_448 f2_448) := hw_448
        obtain ⟨v_448, w_448⟩ := hw_448
        have hSP4 := SM_lit hI hh2 hx4 hxl (by omega) w_448
        refine lv_pop hx hb dL_act_451 rfl ?_
        refine lv_aload_n hx hb dL_act_452 rfl (lv_at hl 5 rfl) ?_
        refine lv_iload_n hx hb dL_act_453 rfl (lv_at hl 4 rfl) ?_
        refine lv_iload hx hb dL_act_454 (lv_at hl 1 rfl) ?_
        refine cpx_i (wr := ([(t0, .inr (4, [.ref lw, .ref rk, .ref hs, .ref em2_448, .int mt, .int qn]))] ++ va_pl L2_448 f2_448)) (ws2 := fun u9 => (((clsW cI cZ ad u9) ++ [(t0, .inr (4, [.ref lw, .ref rk, .ref hs, .ref em2_448, .int mt, .int qn]))]) ++ va_pl L2_448 f2_448)) (vx_runV (As := [.int x_4, .int x_420]) (rest := []) ⟨hx, hb, hml, hown, hts⟩ (k_X3_light_P l hl0 D cI cZ cJ cK _ x_4 x_420 ad Z cx h xx hC hI (hh.trans (congrArg iI (by omega))) (by omega) (hxv.trans (congrArg iI (by omega))) (by omega) (by omega)) (cwV 2 hts (gV qw597 qw598 qw599 qw10 qw600) rfl rfl rfl (by decide +kernel) ⟨Nat.le_of_ble_eq_true rfl, Nat.le_of_ble_eq_true rfl⟩) (pvP (ci := 3) (r := (RX3, TX3, 5)) (q0 := 0) (wr := ([(t0, .inr (4, [.ref lw, .ref rk, .ref hs, .ref em2_448, .int mt, .int qn]))] ++ va_pl L2_448 f2_448)) hP hD hK hT hZ hS (pm_2 _ _ _) rfl rfl) rfl rfl hl.1 rfl (lv_room (Nat.le_of_ble_eq_true rfl)) dL_act_456 ⟨Nat.le_of_ble_eq_true rfl, Nat.le_of_ble_eq_true rfl⟩) hS hP hD hA (pm_2 _ _ _) (fun _ => (pm_2 _ _ _).symm) (fun E9 ce9 q9 H locs hE9 hP hS hq9 hv9 hc9 => ?_) (fun x_456 u_456 H locs hw_456 hP hD hS => ?_)
        · exact absurd hE9 ((fun z => by have := z.2; omega))
        refine id ?_
        obtain ⟨cx2_456, rfl⟩ : ∃ z, z = u_456 := ⟨_, rfl⟩
        have hP : va_P D vwCl (((clsW cI cZ ad cx2_456) ++ [(t0, .inr (4, [.ref lw, .ref rk, .ref hs, .ref em2_448, .int mt, .int qn]))]) ++ va_pl L2_448 f2_448) H := hP
        have hD : va_D A (((clsW cI cZ ad cx2_456) ++ [(t0, .inr (4, [.ref lw, .ref rk, .ref hs, .ref em2_448, .int mt, .int qn]))]) ++ va_pl L2_448 f2_448) := hD
        have hw_456 : (x_456 = iI (↑(aN Z))) ∧ (aN Z < 40) ∧ (CStx (litA Z h xx) cx2_456) := hw_456
        obtain ⟨v_456, b_456, c_456⟩ := hw_456
        refine lv_istore (lv' := [(6, .int x_456), (8, .int x_432), (7, .int x_420), (5, .ref x_17), (4, .int x_12), (3, .int x_4), (0, .ref (ad 0)), (1, .ref t0), (2, .int x0)]) hx hb dL_act_459 hl (by decide) rfl (fun ls hl => ?_)
        refine lv_goto (tgt := 469) hx hb dL_act_461 (by decide) ?_
        refine lv_iload hx hb dL_act_469 (lv_at hl 0 rfl) ?_
        refine lv_iload hx hb dL_act_471 (lv_at hl 1 rfl) ?_
        refine lz_if_eq (tgt := 481) hx hb v_432 (by omega) dL_act_473 (by decide) (fun c_473 => ?_) (fun c_473 => ?_)
        · exfalso; omega
        · refine lv_iload hx hb dL_act_476 (lv_at hl 4 rfl) ?_
          refine lv_goto (tgt := 482) hx hb dL_act_478 (by decide) ?_
          refine lz_icmp_ne (tgt := 489) hx hb v_456 v_12 ⟨by omega, by omega⟩ dL_act_482 (by decide) (fun c_482 => ?_) (fun c_482 => ?_)
          · exfalso; omega
          · refine lz_iconst hx hb dL_act_485 (fun x_485 v_485 => ?_)
            refine lv_goto (tgt := 490) hx hb dL_act_486 (by decide) ?_
            have hP9 := hP
            have hD9 := hD
            refine W.widen (k := 176) (n := 6417) (by omega) (by omega) ?_
            exact W.zret (v := x_485) (ty := .boolean) hx hb hr (by rw [v_485]; decide) (fun t ht hW => ⟨⟨x_485, ⟨(litA Z h xx), cx2_456, em2_448, mt, qn, L2_448, f2_448⟩, rfl, ⟨v_485, c_456, AI_lit hI hh2 hx4 hxl (by omega), PI_lit hI hPI hh2 (by omega), hSP4, hmt, hqn, fun _ k hk => Nat.le_refl _⟩, ⟨by rw [ht]; exact hP9, hD9⟩⟩, hS.F ht⟩) hS.2.2 dL_act_490
