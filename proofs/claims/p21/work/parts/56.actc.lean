set_option maxHeartbeats 4000000 in
set_option maxRecDepth 100000 in
theorem k_L_act_c (l : Launch) (hl0 : l.stackTraces = false) (D : va_G) (cI cZ cJ cK : ClassId) (hz9 : Nat) (t0 : Nat) (x0 : Int32) (lw : Nat) (rk : Nat) (hs : Nat) (em : Nat) (mt : Int32) (qn : Int32) (L : List Nat) (f : Nat → va_E) (ad : Nat → Nat) (Z : va_AS) (cx : CX) (hC : CStx Z cx) (hI : AI Z) (hPI : PI Z) (hSP : SMA cI cJ cK Z lw rk hs em L f) (hmt : mt = aT Z) (hqn : qn = aQ Z) (hcs : bel x0 14 = 3) : Met l yL_act (wh_ yL_act cL_act 11 (Option.some .boolean) [(257, 265, 268, 65), (385, 392, 395, 65), (452, 461, 464, 65)]) ({ frames := 8, cells := 176, slots := 6417, locals := 143 }) (va_Pc [.ref (ad 0), .ref t0, .int x0] (wPre D cI cZ cJ cK hz9 (((clsW cI cZ ad cx) ++ [(t0, .inr (4, [.ref lw, .ref rk, .ref hs, .ref em, .int mt, .int qn]))]) ++ va_pl L f))) (va_Qi (fun r (u : va_AS × CX × Nat × Int32 × Int32 × List Nat × (Nat → va_E)) => (r = iI (1)) ∧ (CStx u.1 u.2.1) ∧ (AI u.1) ∧ (PI u.1) ∧ (SMA cI cJ cK u.1 lw rk hs u.2.2.1 u.2.2.2.2.2.1 u.2.2.2.2.2.2) ∧ (u.2.2.2.1 = aT u.1) ∧ (u.2.2.2.2.1 = aQ u.1) ∧ (bel x0 14 ≠ 5 → ∀ k, k < 2 → aL Z k ≤ aL u.1 k)) (fun (u : va_AS × CX × Nat × Int32 × Int32 × List Nat × (Nat → va_E)) t => wPost D (va_A (((clsW cI cZ ad cx) ++ [(t0, .inr (4, [.ref lw, .ref rk, .ref hs, .ref em, .int mt, .int qn]))]) ++ va_pl L f) hz9) (((clsW cI cZ ad u.2.1) ++ [(t0, .inr (4, [.ref lw, .ref rk, .ref hs, .ref u.2.2.1, .int u.2.2.2.1, .int u.2.2.2.2.1]))]) ++ va_pl u.2.2.2.2.2.1 u.2.2.2.2.2.2) t) (va_A (((clsW cI cZ ad cx) ++ [(t0, .inr (4, [.ref lw, .ref rk, .ref hs, .ref em, .int mt, .int qn]))]) ++ va_pl L f) hz9)) 176 6417 (va_A (((clsW cI cZ ad cx) ++ [(t0, .inr (4, [.ref lw, .ref rk, .ref hs, .ref em, .int mt, .int qn]))]) ++ va_pl L f) hz9) := by
  refine va_ofWH (cc := cL_act) (maxL := 11) (ret := (Option.some .boolean)) (hh := [(257, 265, 268, 65), (385, 392, 395, 65), (452, 461, 464, 65)]) (by decide) rfl ?_
  intro p e s m args below meth c s₁ hBd hml hv
  obtain ⟨rfl, hsz, hP, hD, hK, hT, hZ⟩ := hv
  have hx := hBd.exec
  have hb := hBd.bytes
  have hr := hBd.returns
  have hts : ∀ w ∈ lw_G, w.before _ s = true := fun w h => atoms_spec (ws := (wh_ yL_act cL_act 11 (Option.some .boolean) [(257, 265, 268, 65), (385, 392, 395, 65), (452, 461, 464, 65)])) hBd.pre w (List.mem_cons_of_mem _ h)
  have htab : c.exceptionTable.toList = [⟨257, 265, 268, 65⟩, ⟨385, 392, 395, 65⟩, ⟨452, 461, 464, 65⟩] := vx_table (x := yL_act) hBd (hts _ qw523)
  have hown : s.vm.findClass RL = some m.cls := findClass_of_methodNamed hBd.named
  have hlocks := hBd.notSynchronized
  subst hsz
  have hD := hD.self (sz := s.heap.size)
  have hZA := hZ.own hP
  generalize hAe : va_A (((clsW cI cZ ad cx) ++ [(t0, .inr (4, [.ref lw, .ref rk, .ref hs, .ref em, .int mt, .int qn]))]) ++ va_pl L f) s.heap.size = A at hD hZA ⊢
  have hA : ∀ q : Nat, s.heap.size ≤ q → A q := fun q h => by rw [← hAe]; exact Or.inr h
  have hZ := hZA
  have hS : va_S A s.heap s.heap [] := va_S.rf
  have hl := lv_entry ([.ref (ad 0), .ref t0, .int x0]) (n := 11) (Nat.le_of_ble_eq_true rfl)
  rw [lg_entry_eq]
  generalize (lg_sl ([.ref (ad 0), .ref t0, .int x0]) ++ List.replicate (11 - (lg_sl ([.ref (ad 0), .ref t0, .int x0])).length) Slot.unset).toArray = ls at hl ⊢
  have hl : lv_has ls 11 [(0, .ref (ad 0)), (1, .ref t0), (2, .int x0)] := hl
  have hP : va_P D vwCl (((clsW cI cZ ad cx) ++ [(t0, .inr (4, [.ref lw, .ref rk, .ref hs, .ref em, .int mt, .int qn]))]) ++ va_pl L f) s.heap := hP
  obtain ⟨K, ha, ea, rr, qS⟩ := id hSP
  obtain ⟨⟨lw1, lw2, gl, lw3, lw4⟩, ⟨rk1, rk2, gg, rk3, rk4⟩, ⟨hs1, hs2, gs, hs3, hs4⟩, ⟨em1, em2, ge, em3, em4⟩, q5, q6, q7⟩ := id qS
  refine lv_iload_n hx hb dL_act_0 rfl (lv_at hl 2 rfl) ?_
  refine lz_iconst hx hb dL_act_1 (fun x_1 v_1 => ?_)
  refine lv_ishr hx hb dL_act_2 ?_
  refine lv_topi (fun x_2 e_2 => ?_)
  refine lz_iconst hx hb dL_act_3 (fun x_3 v_3 => ?_)
  refine cr_i (va_runS (As := [.int x_2, .int x_3]) (rest := []) ⟨hx, hb, hml, hown, hts⟩ (k_L_below l D cI cZ cJ cK _ x_2 x_3 2 (v_3.trans (congrArg iI (by omega))) (by omega) (by omega)) (va_cwS 2 hts (gS qw513 qw514 qw9 qw515) rfl rfl rfl (by decide +kernel) ⟨Nat.le_of_ble_eq_true rfl, Nat.le_of_ble_eq_true rfl⟩) (ps hP hD hK hT hZ hS [] rfl rfl) rfl rfl hl.1 rfl (lv_room (Nat.le_of_ble_eq_true rfl)) dL_act_4 ⟨Nat.le_of_ble_eq_true rfl, Nat.le_of_ble_eq_true rfl⟩) hS hP (fun x_4 H locs hw_4 hP hS => ?_)
  have hw_4 : (x_4 = iI (↑(bel x_2 2))) := hw_4
  have v_4 := hw_4
  obtain ⟨h, hh2, hh⟩ : ∃ h : Nat, h < 2 ∧ x_4 = iI ↑h := ⟨_, bel_lt x_2 (by decide), v_4⟩
  refine lv_istore_n (lv' := [(3, .int x_4), (0, .ref (ad 0)), (1, .ref t0), (2, .int x0)]) hx hb dL_act_7 rfl hl (by decide) rfl (fun ls hl => ?_)
  refine lv_aload_n hx hb dL_act_8 rfl (lv_at hl 2 rfl) ?_
  refine va_get (D := D) (ci := 4) (v := .ref em) (C := RX4) (T := TX4) (N := 6) hx hb hts iX4 hown hK hP 24 rfl rfl 3 (by decide) (hts _ qw621) (fun _ h9 => h9) rfl dL_act_9 ?_
  refine rd_alen hx hb hK hP 2 (pl_mem em1 em3) rfl dL_act_12 (fun x_12 v_12 => ?_)
  have v_12 : x_12 = iI (↑(aN Z)) := v_12
  refine lv_istore (lv' := [(4, .int x_12), (3, .int x_4), (0, .ref (ad 0)), (1, .ref t0), (2, .int x0)]) hx hb dL_act_13 hl (by decide) rfl (fun ls hl => ?_)
  refine lv_aload_n hx hb dL_act_15 rfl (lv_at hl 3 rfl) ?_
  refine lv_iload_n hx hb dL_act_16 rfl (lv_at hl 1 rfl) ?_
  refine cp_r (wr := (clsW cI cZ ad cx)) (ws2 := fun u9 => (((clsW cI cZ ad cx) ++ [(t0, .inr (4, [.ref lw, .ref rk, .ref hs, .ref em, .int mt, .int qn]))]) ++ va_pl u9.1 u9.2)) (va_runV (As := [.int x_4]) (rest := []) ⟨hx, hb, hml, hown, hts⟩ (k_X4_all l D cI cZ cJ cK _ t0 x_4 lw rk hs em mt qn L f h (aN Z) (aH Z) (aM Z) (aK Z) (aL Z) (aG Z) (rwA Z) (hSP) (hh.trans (congrArg iI (by omega))) (hh2) (by rw [rw_all hI hh2]; have := (AI_len hI hh2).1; have := hI.1; omega)) (cwV 1 hts (gV qw525 qw489 qw490 qw14 qw491) rfl rfl rfl (by decide +kernel) ⟨Nat.le_of_ble_eq_true rfl, Nat.le_of_ble_eq_true rfl⟩) (pvP (ci := 4) (r := (RX4, TX4, 6)) (q0 := 24) (wr := (clsW cI cZ ad cx)) hP hD hK hT hZ hS (pm_1 _ _ _) rfl rfl) rfl rfl hl.1 rfl (lv_room (Nat.le_of_ble_eq_true rfl)) dL_act_17 ⟨Nat.le_of_ble_eq_true rfl, Nat.le_of_ble_eq_true rfl⟩) hS hP hD hA (pm_1 _ _ _) (fun _ => (pm_1 _ _ _).symm) (fun x_17 u_17 H locs hw_17 hP hD hS => ?_)
  obtain ⟨L2_17, f2_17⟩ := u_17
  have hP : va_P D vwCl (((clsW cI cZ ad cx) ++ [(t0, .inr (4, [.ref lw, .ref rk, .ref hs, .ref em, .int mt, .int qn]))]) ++ va_pl L2_17 f2_17) H := hP
  have hD : va_D A (((clsW cI cZ ad cx) ++ [(t0, .inr (4, [.ref lw, .ref rk, .ref hs, .ref em, .int mt, .int qn]))]) ++ va_pl L2_17 f2_17) := hD
  have hw_17 : (pExt L f L2_17 f2_17) ∧ (x_17 ∈ L2_17) ∧ (x_17 ∉ L) ∧ (rowE cI (catR ((rwA Z) h) 11) (f2_17 x_17)) := hw_17
  obtain ⟨e_17, i_17, o_17, v_17⟩ := hw_17
  rw [rw_all hI hh2] at v_17
  have hSP2 := SimP.ext hSP e_17
  obtain ⟨ga, hfa, hga⟩ := id v_17
  obtain ⟨m1, m2, m3⟩ := AI_len hI hh2
  have m4 := hI.1
  refine lv_astore (lv' := [(5, .ref x_17), (4, .int x_12), (3, .int x_4), (0, .ref (ad 0)), (1, .ref t0), (2, .int x0)]) hx hb dL_act_20 hl (by decide) rfl (fun ls hl => ?_)
  refine lv_iload_n hx hb dL_act_22 rfl (lv_at hl 5 rfl) ?_
  refine lz_bipush hx hb (by decide) dL_act_23 (fun x_23 v_23 => ?_)
  refine cr_i (va_runS (As := [.int x0, .int x_23]) (rest := []) ⟨hx, hb, hml, hown, hts⟩ (k_L_below l D cI cZ cJ cK _ x0 x_23 14 (v_23.trans (congrArg iI (by omega))) (by omega) (by omega)) (va_cwS 2 hts (gS qw513 qw514 qw9 qw515) rfl rfl rfl (by decide +kernel) ⟨Nat.le_of_ble_eq_true rfl, Nat.le_of_ble_eq_true rfl⟩) (ps hP hD hK hT hZ hS [] rfl rfl) rfl rfl hl.1 rfl (lv_room (Nat.le_of_ble_eq_true rfl)) dL_act_25 ⟨Nat.le_of_ble_eq_true rfl, Nat.le_of_ble_eq_true rfl⟩) hS hP (fun x_25 H locs hw_25 hP hS => ?_)
  have hw_25 : (x_25 = iI (↑(bel x0 14))) := hw_25
  have v_25 := hw_25
  have hb14 := bel_lt x0 (show 0 < 14 by decide)
  have t_28 : x_25.toInt = ↑(bel x0 14) := by rw [v_25]; exact iI_t (by omega)
  rcases (show ↑(bel x0 14) = 0 ∨ ↑(bel x0 14) = 1 ∨ ↑(bel x0 14) = 2 ∨ ↑(bel x0 14) = 3 ∨ ↑(bel x0 14) = 4 ∨ ↑(bel x0 14) = 5 ∨ (↑(bel x0 14) < 0 ∨ 5 < ↑(bel x0 14)) by omega) with c_28 | c_28 | c_28 | c_28 | c_28 | c_28 | c_28
  · exfalso; omega
  · exfalso; omega
  · exfalso; omega
  · refine lv_tableIn (off := 181) (tgt := 209) hx hb dL_act_28 (by rw [t_28]; omega) (by rw [t_28]; omega) (by rw [t_28, c_28]; rfl) (by decide) ?_
    refine lv_iload hx hb dL_act_209 (lv_at hl 1 rfl) ?_
    refine lz_if_ne (tgt := 216) hx hb v_12 (by omega) dL_act_211 (by decide) (fun c_211 => ?_) (fun c_211 => ?_)
    · have hnp : 0 < aN Z := by omega
      refine lv_iload_n hx hb dL_act_216 rfl (lv_at hl 5 rfl) ?_
      refine lz_iconst hx hb dL_act_217 (fun x_217 v_217 => ?_)
      refine lv_ishr hx hb dL_act_218 ?_
      refine lv_topi (fun x_218 e_218 => ?_)
      refine lv_iload hx hb dL_act_219 (lv_at hl 1 rfl) ?_
      refine cr_i (va_runS (As := [.int x_218, .int x_12]) (rest := []) ⟨hx, hb, hml, hown, hts⟩ (k_L_below l D cI cZ cJ cK _ x_218 x_12 (aN Z) (v_12.trans (congrArg iI (by omega))) (by omega) (by omega)) (va_cwS 2 hts (gS qw513 qw514 qw9 qw515) rfl rfl rfl (by decide +kernel) ⟨Nat.le_of_ble_eq_true rfl, Nat.le_of_ble_eq_true rfl⟩) (ps hP hD hK hT hZ hS [] rfl rfl) rfl rfl hl.1 rfl (lv_room (Nat.le_of_ble_eq_true rfl)) dL_act_221 ⟨Nat.le_of_ble_eq_true rfl, Nat.le_of_ble_eq_true rfl⟩) hS hP (fun x_221 H locs hw_221 hP hS => ?_)
      have hw_221 : (x_221 = iI (↑(bel x_218 (aN Z)))) := hw_221
      have v_221 := hw_221
      have hb1 := bel_lt x_218 hnp
      obtain ⟨eb, heb⟩ : ∃ eb, eb = bel x_218 (aN Z) := ⟨_, rfl⟩
      have hvb : x_221 = iI ↑eb := by
        rw [heb]
        exact v_221
      have w3 : eb < aN Z := by
        rw [heb]
        exact hb1
      refine lv_istore (lv' := [(7, .int x_221), (5, .ref x_17), (4, .int x_12), (3, .int x_4), (0, .ref (ad 0)), (1, .ref t0), (2, .int x0)]) hx hb dL_act_224 hl (by decide) rfl (fun ls hl => ?_)
      refine lv_aload_n hx hb dL_act_226 rfl (lv_at hl 5 rfl) ?_
      refine lv_iload hx hb dL_act_227 (lv_at hl 0 rfl) ?_
      refine cp_r (wr := (clsW cI cZ ad cx)) (ws2 := fun u9 => (((clsW cI cZ ad cx) ++ [(t0, .inr (4, [.ref lw, .ref rk, .ref hs, .ref em, .int mt, .int qn]))]) ++ va_pl u9.1 u9.2)) (va_runV (As := [.int x_221]) (rest := []) ⟨hx, hb, hml, hown, hts⟩ (k_X4_where l D cI cZ cJ cK _ t0 x_221 lw rk hs em mt qn L2_17 f2_17 eb (aN Z) (aH Z) (aM Z) (aK Z) (aL Z) (aG Z) (rwA Z) (hSP2) (hvb.trans (congrArg iI (by omega))) (by omega) (rw_bd hI)) (cwV 1 hts (gV qw547 qw500 qw501 qw14 qw502) rfl rfl rfl (by decide +kernel) ⟨Nat.le_of_ble_eq_true rfl, Nat.le_of_ble_eq_true rfl⟩) (pvP (ci := 4) (r := (RX4, TX4, 6)) (q0 := 24) (wr := (clsW cI cZ ad cx)) hP hD hK hT hZ hS (pm_1 _ _ _) rfl rfl) rfl rfl hl.1 rfl (lv_room (Nat.le_of_ble_eq_true rfl)) dL_act_229 ⟨Nat.le_of_ble_eq_true rfl, Nat.le_of_ble_eq_true rfl⟩) hS hP hD hA (pm_1 _ _ _) (fun _ => (pm_1 _ _ _).symm) (fun x_229 u_229 H locs hw_229 hP hD hS => ?_)
      obtain ⟨L2_229, f2_229⟩ := u_229
      have hP : va_P D vwCl (((clsW cI cZ ad cx) ++ [(t0, .inr (4, [.ref lw, .ref rk, .ref hs, .ref em, .int mt, .int qn]))]) ++ va_pl L2_229 f2_229) H := hP
      have hD : va_D A (((clsW cI cZ ad cx) ++ [(t0, .inr (4, [.ref lw, .ref rk, .ref hs, .ref em, .int mt, .int qn]))]) ++ va_pl L2_229 f2_229) := hD
      have hw_229 : (pExt L2_17 f2_17 L2_229 f2_229) ∧ (x_229 ∈ L2_229) ∧ (x_229 ∉ L2_17) ∧ (∃ g : Nat → Int32, f2_229 x_229 = .inl (cI, 2, .inl g) ∧ ((∃ h b, h < 2 ∧ b < 11 ∧ eb ∈ (rwA Z) h b ∧ g 0 = iI ↑h ∧ g 1 = iI ↑b) ∨ ((∀ h b, h < 2 → b < 11 → eb ∉ (rwA Z) h b) ∧ g 0 = iI (-1) ∧ g 1 = iI (-1)))) := hw_229
      obtain ⟨e_229, i_229, o_229, v_229⟩ := hw_229
      obtain ⟨gw, hfw, hgw⟩ := id v_229
      have hSP3 := SimP.ext hSP2 e_229
      rcases hgw with ⟨k, b, hk2, hb11, hem, hg0, hg1⟩ | ⟨hno, hg0, hg1⟩
      · have hein := (rw_mem.mp hem).1
        obtain ⟨w1, w2, -, w4, w5, w6⟩ := rw_in hI hk2 hein
        have hbb : bk (aL Z k) (aH Z eb) = b := (rw_mem.mp hem).2
        obtain ⟨K2, ha2, ea2, rr2, qS2⟩ := id hSP2
        have hSQ3 : SimQ cI cJ cK (aN Z) (aH Z) (aM Z) (aK Z) (aL Z) (aG Z) (rwA Z) lw rk hs em L2_229 f2_229 x_229 [k, b] := ⟨_, _, _, _, qS2.ext e_229, i_229, if_neg o_229, ⟨gw, hfw, fun i hi => by
          rcases (show i = 0 ∨ i = 1 by have : i < 2 := hi; omega) with rfl | rfl
          · exact hg0
          · exact hg1⟩⟩
        refine lv_astore (lv' := [(8, .ref x_229), (7, .int x_221), (5, .ref x_17), (4, .int x_12), (3, .int x_4), (0, .ref (ad 0)), (1, .ref t0), (2, .int x0)]) hx hb dL_act_232 hl (by decide) rfl (fun ls hl => ?_)
        refine lv_aload hx hb dL_act_234 (lv_at hl 0 rfl) ?_
        refine lz_iconst hx hb dL_act_236 (fun x_236 v_236 => ?_)
        refine rd_iald hx hb hK hP 0 (pl_mem i_229 hfw) rfl v_236 (0) (by omega) (by omega) (by omega) dL_act_237 (fun x_237 e_237 => ?_)
        have v_237 : x_237 = iI (↑k) := e_237.trans (hg0)
        refine lz_if_lt (tgt := 257) hx hb v_237 (by omega) dL_act_238 (by decide) (fun c_238 => ?_) (fun c_238 => ?_)
        · exfalso; omega
        · refine lv_aload_n hx hb dL_act_241 rfl (lv_at hl 6 rfl) ?_
          refine lv_iload hx hb dL_act_242 (lv_at hl 1 rfl) ?_
          refine cp_v (wr := (clsW cI cZ ad cx)) (ws2 := fun u9 => (((clsW cI cZ ad cx) ++ [(t0, .inr (4, [.ref lw, .ref rk, .ref hs, .ref em, .int mt, .int qn]))]) ++ va_pl u9.1 u9.2)) (va_runV (As := [.int x_221]) (rest := []) ⟨hx, hb, hml, hown, hts⟩ (k_X4_takeOut_q l D cI cZ cJ cK _ t0 x_221 lw rk hs em mt qn L2_229 f2_229 k b eb (aN Z) (aH Z) (aM Z) (aK Z) (aL Z) (aG Z) (rwA Z) x_229 ([k, b]) (hSQ3) (hvb.trans (congrArg iI (by omega))) (by omega) (rw_bd hI) (hk2) (hb11) (hem) (rw_uq hI hk2 hem)) (cwV 1 hts (gV qw526 qw527 qw528 qw14 qw529) rfl rfl rfl (by decide +kernel) ⟨Nat.le_of_ble_eq_true rfl, Nat.le_of_ble_eq_true rfl⟩) (pvP (ci := 4) (r := (RX4, TX4, 6)) (q0 := 24) (wr := (clsW cI cZ ad cx)) hP hD hK hT hZ hS (pm_1 _ _ _) rfl rfl) rfl rfl hl.1 rfl (lv_room (Nat.le_of_ble_eq_true rfl)) dL_act_244 ⟨Nat.le_of_ble_eq_true rfl, Nat.le_of_ble_eq_true rfl⟩) hS hP hD hA (pm_1 _ _ _) (fun _ => (pm_1 _ _ _).symm) (fun u_244 H locs hw_244 hP hD hS => ?_)
          obtain ⟨L2_244, f2_244⟩ := u_244
          have hP : va_P D vwCl (((clsW cI cZ ad cx) ++ [(t0, .inr (4, [.ref lw, .ref rk, .ref hs, .ref em, .int mt, .int qn]))]) ++ va_pl L2_244 f2_244) H := hP
          have hD : va_D A (((clsW cI cZ ad cx) ++ [(t0, .inr (4, [.ref lw, .ref rk, .ref hs, .ref em, .int mt, .int qn]))]) ++ va_pl L2_244 f2_244) := hD
          have hw_244 : (SimQ cI cJ cK (aN Z) (aH Z) (aM Z) (aK Z) (aL Z) (aG Z) (va_up (rwA Z) k (va_up ((rwA Z) k) b (((rwA Z) k b).filter (fun y => decide (y ≠ eb))))) lw rk hs em L2_244 f2_244 x_229 ([k, b])) := hw_244
          have v_244 := hw_244
          have hSP4 := SM_que hI hk2 hein (by rw [hbb]; exact v_244.P)
          obtain ⟨K3, ha3, ea3, rr3, qS3, qw, qk, qM⟩ := id v_244
          obtain ⟨gw2, hfw2, hgw2⟩ := id qM
          have hfw2 : f2_244 x_229 = .inl (cI, 2, .inl gw2) := hfw2
          have hg11 : gw2 1 = iI ↑b := hgw2 1 (show 1 < 2 by decide)
          refine lv_aload_n hx hb dL_act_247 rfl (lv_at hl 6 rfl) ?_
          refine lv_dup hx hb dL_act_248 rfl ?_
          refine va_get (D := D) (ci := 4) (v := .int qn) (C := RX4) (T := TX4) (N := 6) hx hb hts iX4 hown hK hP 24 rfl rfl 5 (by decide) (hts _ qw623) (fun _ h9 => h9) rfl dL_act_249 ?_
          refine lz_iconst hx hb dL_act_252 (fun x_252 v_252 => ?_)
          refine lv_iadd hx hb dL_act_253 ?_
          refine lv_topi (fun x_253 e_253 => ?_)
          refine va_put (D := D) (ci := 4) (v := .int x_253) (ty := .int) (C := RX4) (T := TX4) (N := 6) hx hb hts iX4 tyX4 tyX4_ok nmX4 hown hK hP hD hS 24 rfl rfl 5 (by decide) (hts _ qw623) (fun _ h9 => h9) rfl (by decide +kernel) rfl rfl (Nat.le_of_ble_eq_true rfl) dL_act_254 (fun H locs hP hD hS => ?_)
          have hP : va_P D vwCl (((clsW cI cZ ad cx) ++ [(t0, .inr (4, [.ref lw, .ref rk, .ref hs, .ref em, .int mt, .int x_253]))]) ++ va_pl L2_244 f2_244) H := hP
          have hD : va_D A (((clsW cI cZ ad cx) ++ [(t0, .inr (4, [.ref lw, .ref rk, .ref hs, .ref em, .int mt, .int x_253]))]) ++ va_pl L2_244 f2_244) := hD
          refine lv_aload_n hx hb dL_act_257 rfl (lv_at hl 5 rfl) ?_
          refine lv_iload hx hb dL_act_258 (lv_at hl 1 rfl) ?_
          refine cp_i (wr := ([(t0, .inr (4, [.ref lw, .ref rk, .ref hs, .ref em, .int mt, .int x_253]))] ++ va_pl L2_244 f2_244)) (ws2 := fun u9 => (((clsW cI cZ ad u9) ++ [(t0, .inr (4, [.ref lw, .ref rk, .ref hs, .ref em, .int mt, .int x_253]))]) ++ va_pl L2_244 f2_244)) (va_runV (As := [.int x_221]) (rest := []) ⟨hx, hb, hml, hown, hts⟩ (k_X3_quench_P l D cI cZ cJ cK _ x_221 ad Z cx k eb hC hI (hk2) (hvb.trans (congrArg iI (by omega))) (w3) (w4)) (cwV 1 hts (gV qw548 qw549 qw550 qw10 qw551) rfl rfl rfl (by decide +kernel) ⟨Nat.le_of_ble_eq_true rfl, Nat.le_of_ble_eq_true rfl⟩) (pvP (ci := 3) (r := (RX3, TX3, 5)) (q0 := 0) (wr := ([(t0, .inr (4, [.ref lw, .ref rk, .ref hs, .ref em, .int mt, .int x_253]))] ++ va_pl L2_244 f2_244)) hP hD hK hT hZ hS (pm_2 _ _ _) rfl rfl) rfl rfl hl.1 rfl (lv_room (Nat.le_of_ble_eq_true rfl)) dL_act_260 ⟨Nat.le_of_ble_eq_true rfl, Nat.le_of_ble_eq_true rfl⟩) hS hP hD hA (pm_2 _ _ _) (fun _ => (pm_2 _ _ _).symm) (fun x_260 u_260 H locs hw_260 hP hD hS => ?_)
          obtain ⟨cx2_260, rfl⟩ : ∃ z, z = u_260 := ⟨_, rfl⟩
          have hP : va_P D vwCl (((clsW cI cZ ad cx2_260) ++ [(t0, .inr (4, [.ref lw, .ref rk, .ref hs, .ref em, .int mt, .int x_253]))]) ++ va_pl L2_244 f2_244) H := hP
          have hD : va_D A (((clsW cI cZ ad cx2_260) ++ [(t0, .inr (4, [.ref lw, .ref rk, .ref hs, .ref em, .int mt, .int x_253]))]) ++ va_pl L2_244 f2_244) := hD
          have hw_260 : (x_260 = iI (↑(bk (aL Z k) (aH Z eb)))) ∧ (CStx (queA Z k eb) cx2_260) := hw_260
          obtain ⟨v_260, c_260⟩ := hw_260
          refine lv_istore (lv' := [(6, .int x_260), (8, .ref x_229), (7, .int x_221), (5, .ref x_17), (4, .int x_12), (3, .int x_4), (0, .ref (ad 0)), (1, .ref t0), (2, .int x0)]) hx hb dL_act_263 hl (by decide) rfl (fun ls hl => ?_)
          refine lv_goto (tgt := 273) hx hb dL_act_265 (by decide) ?_
          refine lv_iload hx hb dL_act_273 (lv_at hl 0 rfl) ?_
          refine lv_aload hx hb dL_act_275 (lv_at hl 1 rfl) ?_
          refine lz_iconst hx hb dL_act_277 (fun x_277 v_277 => ?_)
          refine rd_iald hx hb hK hP 0 (pl_mem qw hfw2) rfl v_277 (1) (by omega) (by omega) (by omega) dL_act_278 (fun x_278 e_278 => ?_)
          have v_278 : x_278 = iI (↑b) := e_278.trans (hg11)
          refine lz_icmp_ne (tgt := 286) hx hb v_260 v_278 ⟨by omega, by omega⟩ dL_act_279 (by decide) (fun c_279 => ?_) (fun c_279 => ?_)
          · exfalso; omega
          · refine lz_iconst hx hb dL_act_282 (fun x_282 v_282 => ?_)
            refine lv_goto (tgt := 287) hx hb dL_act_283 (by decide) ?_
            have hP9 := hP
            have hD9 := hD
            refine W.widen (k := 176) (n := 6417) (by omega) (by omega) ?_
            exact W.zret (v := x_282) (ty := .boolean) hx hb hr (by rw [v_282]; decide) (fun t ht hW => ⟨⟨x_282, ⟨(queA Z k eb), cx2_260, em, mt, x_253, L2_244, f2_244⟩, rfl, ⟨v_282, c_260, AI_que hI hk2 w3 w4, PI_que hI hPI hk2 hein, hSP4, hmt, by rw [e_253, v_252, hqn]; rfl, fun _ k hk => Nat.le_refl _⟩, ⟨by rw [ht]; exact hP9, hD9⟩⟩, hS.F ht⟩) hS.2.2 dL_act_287
      · have hav := rw_no hI w3 hno
        refine lv_astore (lv' := [(8, .ref x_229), (7, .int x_221), (5, .ref x_17), (4, .int x_12), (3, .int x_4), (0, .ref (ad 0)), (1, .ref t0), (2, .int x0)]) hx hb dL_act_232 hl (by decide) rfl (fun ls hl => ?_)
        refine lv_aload hx hb dL_act_234 (lv_at hl 0 rfl) ?_
        refine lz_iconst hx hb dL_act_236 (fun x_236 v_236 => ?_)
        refine rd_iald hx hb hK hP 0 (pl_mem i_229 hfw) rfl v_236 (0) (by omega) (by omega) (by omega) dL_act_237 (fun x_237 e_237 => ?_)
        have v_237 : x_237 = iI (-1) := e_237.trans (hg0)
        refine lz_if_lt (tgt := 257) hx hb v_237 (by omega) dL_act_238 (by decide) (fun c_238 => ?_) (fun c_238 => ?_)
        · refine lv_aload_n hx hb dL_act_257 rfl (lv_at hl 5 rfl) ?_
          refine lv_iload hx hb dL_act_258 (lv_at hl 1 rfl) ?_
          refine cx_i (vx_runV (As := [.int x_221]) (rest := []) ⟨hx, hb, hml, hown, hts⟩ (k_X3_quench_Q l hl0 D cI cZ cJ cK _ x_221 ad Z cx eb hC hI (hvb.trans (congrArg iI (by omega))) (w3) (hav)) (cwV 1 hts (gV qw548 qw549 qw550 qw10 qw551) rfl rfl rfl (by decide +kernel) ⟨Nat.le_of_ble_eq_true rfl, Nat.le_of_ble_eq_true rfl⟩) (pvP (ci := 3) (r := (RX3, TX3, 5)) (q0 := 0) (wr := ([(t0, .inr (4, [.ref lw, .ref rk, .ref hs, .ref em, .int mt, .int qn]))] ++ va_pl L2_229 f2_229)) hP hD hK hT hZ hS (pm_2 _ _ _) rfl rfl) rfl rfl hl.1 rfl (lv_room (Nat.le_of_ble_eq_true rfl)) dL_act_260 ⟨Nat.le_of_ble_eq_true rfl, Nat.le_of_ble_eq_true rfl⟩) hS hP (fun E9 ce9 q9 H locs hE9 hP hS hq9 hv9 hc9 => ?_) (fun x_260 H locs hw_260 hP hS => ?_)
          · subst hE9
            refine vx_catch (name := xS) hown [] ⟨257, 265, 268, 65⟩ [⟨385, 392, 395, 65⟩, ⟨452, 461, 464, 65⟩] htab hp_0 (by decide) (by decide) (hts _ qw524) (va_Nw.use rfl (hT.1 _ nw192)) hq9 hv9 hc9 ?_
            have hP : va_P D vwCl (((clsW cI cZ ad cx) ++ [(t0, .inr (4, [.ref lw, .ref rk, .ref hs, .ref em, .int mt, .int qn]))]) ++ va_pl L2_229 f2_229) H := hP
            have hD : va_D A (((clsW cI cZ ad cx) ++ [(t0, .inr (4, [.ref lw, .ref rk, .ref hs, .ref em, .int mt, .int qn]))]) ++ va_pl L2_229 f2_229) := hD
            refine lv_astore (lv' := [(9, .ref q9), (8, .ref x_229), (7, .int x_221), (5, .ref x_17), (4, .int x_12), (3, .int x_4), (0, .ref (ad 0)), (1, .ref t0), (2, .int x0)]) hx hb dL_act_268 hl (by decide) rfl (fun ls hl => ?_)
            refine lz_iconst hx hb dL_act_270 (fun x_270 v_270 => ?_)
            refine lv_istore (lv' := [(6, .int x_270), (9, .ref q9), (8, .ref x_229), (7, .int x_221), (5, .ref x_17), (4, .int x_12), (3, .int x_4), (0, .ref (ad 0)), (1, .ref t0), (2, .int x0)]) hx hb dL_act_271 hl (by decide) rfl (fun ls hl => ?_)
            refine lv_iload hx hb dL_act_273 (lv_at hl 0 rfl) ?_
            refine lv_aload hx hb dL_act_275 (lv_at hl 2 rfl) ?_
            refine lz_iconst hx hb dL_act_277 (fun x_277 v_277 => ?_)
            refine rd_iald hx hb hK hP 0 (pl_mem i_229 hfw) rfl v_277 (1) (by omega) (by omega) (by omega) dL_act_278 (fun x_278 e_278 => ?_)
            have v_278 : x_278 = iI (-1) := e_278.trans (hg1)
            refine lz_icmp_ne (tgt := 286) hx hb v_270 v_278 ⟨by omega, by omega⟩ dL_act_279 (by decide) (fun c_279 => ?_) (fun c_279 => ?_)
            · exfalso; omega
            · refine lz_iconst hx hb dL_act_282 (fun x_282 v_282 => ?_)
              refine lv_goto (tgt := 287) hx hb dL_act_283 (by decide) ?_
              have hP9 := hP
              have hD9 := hD
              refine W.widen (k := 176) (n := 6417) (by omega) (by omega) ?_
              exact W.zret (v := x_282) (ty := .boolean) hx hb hr (by rw [v_282]; decide) (fun t ht hW => ⟨⟨x_282, ⟨Z, cx, em, mt, qn, L2_229, f2_229⟩, rfl, ⟨v_282, hC, hI, hPI, hSP3, hmt, hqn, fun _ k hk => Nat.le_refl _⟩, ⟨by rw [ht]; exact hP9, hD9⟩⟩, hS.F ht⟩) hS.2.2 dL_act_287
          refine id ?_
          exact hw_260.elim
        · exfalso; omega
    · refine lz_iconst hx hb dL_act_214 (fun x_214 v_214 => ?_)
      have hP9 := hP
      have hD9 := hD
      refine W.widen (k := 176) (n := 6417) (by omega) (by omega) ?_
      exact W.zret (v := x_214) (ty := .boolean) hx hb hr (by rw [v_214]; decide) (fun t ht hW => ⟨⟨x_214, ⟨Z, cx, em, mt, qn, L2_17, f2_17⟩, rfl, ⟨v_214, hC, hI, hPI, hSP2, hmt, hqn, fun _ k hk => Nat.le_refl _⟩, ⟨by rw [ht]; exact hP9, hD9⟩⟩, hS.F ht⟩) hS.2.2 dL_act_215
  · exfalso; omega
  · exfalso; omega
  · exfalso; omega
