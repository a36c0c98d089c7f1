set_option maxHeartbeats 4000000 in
set_option maxRecDepth 100000 in
theorem k_L_act_b (l : Launch) (hl0 : l.stackTraces = false) (D : va_G) (cI cZ cJ cK : ClassId) (hz9 : Nat) (t0 : Nat) (x0 : Int32) (lw : Nat) (rk : Nat) (hs : Nat) (em : Nat) (mt : Int32) (qn : Int32) (L : List Nat) (f : Nat → va_E) (ad : Nat → Nat) (Z : va_AS) (cx : CX) (hC : CStx Z cx) (hI : AI Z) (hPI : PI Z) (hSP : SMA cI cJ cK Z lw rk hs em L f) (hmt : mt = aT Z) (hqn : qn = aQ Z) (hcs : bel x0 14 = 2) : Met l yL_act (wh_ yL_act cL_act 11 (Option.some .boolean) [(257, 265, 268, 65), (385, 392, 395, 65), (452, 461, 464, 65)]) ({ frames := 8, cells := 176, slots := 6417, locals := 143 }) (va_Pc [.ref (ad 0), .ref t0, .int x0] (wPre D cI cZ cJ cK hz9 (((clsW cI cZ ad cx) ++ [(t0, .inr (4, [.ref lw, .ref rk, .ref hs, .ref em, .int mt, .int qn]))]) ++ va_pl L f))) (va_Qi (fun r (u : va_AS × CX × Nat × Int32 × Int32 × List Nat × (Nat → va_E)) => (r = iI (1)) ∧ (CStx u.1 u.2.1) ∧ (AI u.1) ∧ (PI u.1) ∧ (SMA cI cJ cK u.1 lw rk hs u.2.2.1 u.2.2.2.2.2.1 u.2.2.2.2.2.2) ∧ (u.2.2.2.1 = aT u.1) ∧ (u.2.2.2.2.1 = aQ u.1) ∧ (bel x0 14 ≠ 5 → ∀ k, k < 2 → aL Z k ≤ aL u.1 k)) (fun (u : va_AS × CX × Nat × Int32 × Int32 × List Nat × (Nat → va_E)) t => wPost D (va_A (((clsW cI cZ ad cx) ++ [(t0, .inr (4, [.ref lw, .ref rk, .ref hs, .ref em, .int mt, .int qn]))]) ++ va_pl L f) hz9) (((clsW cI cZ ad u.2.1) ++ [(t0, .inr (4, [.ref lw, .ref rk, .ref hs, .ref u.2.2.1, .int u.2.2.2.1, .int u.2.2.2.2.1]))]) ++ va_pl u.2.2.2.2.2.1 u.2.2.2.2.2.2) t) (va_A (((clsW cI cZ ad cx) ++ [(t0, .inr (4, [.ref lw, .ref rk, .ref hs, .ref em, .int mt, .int qn]))]) ++ va_pl L f) hz9)) 176 6417 (va_A (((clsW cI cZ ad cx) ++ [(t0, .inr (4, [.ref lw, .ref rk, .ref hs, .ref em, .int mt, .int qn]))]) ++ va_pl L f) hz9) := by
  refine va_ofWH (cc := cL_act) (maxL := 11) (ret := (Option.some .boolean)) (hh := [(257, 265, 268, 65), (385, 392, 395, 65), (452, 461, 464, 65)]) (by decide) rfl ?_
  intro p e s m args below meth c s₁ hBd hml hv
  obtain ⟨rfl, hsz, hP, hD, hK, hT, hZ⟩ := hv
  have hx := hBd.exec
  have hb := hBd.bytes
  have hr := hBd.returns
  have hts : ∀ w ∈ lw_G, w.before _ s = true := fun w h => atoms_spec (ws := (wh_ yL_act cL_act 11 (Option.some .boolean) [(257, 265, 268, 65), (385, 392, 395, 65), (452, 461, 464, 65)])) hBd.pre w (List.mem_cons_of_mem _ h)
  have htab : c.exceptionTable.toList = [⟨257, 265, 268, 65⟩, ⟨385, 392, 395, 65⟩, ⟨452, 461, 464, 65⟩] := vx_table (x := yL_act) hBd (hts _ qw523)
  have hown : s.vm.findClass RL = some m.cls := findClass_of_methodNamed hBd.named
  have hlocks := hBd.notSynchronized
  subst hsz
  have hD := hD.self (sz := s.heap.size)
  have hZA := hZ.own hP
  generalize hAe : va_A (((clsW cI cZ ad cx) ++ [(t0, .inr (4, [.ref lw, .ref rk, .ref hs, .ref em, .int mt, .int qn]))]) ++ va_pl L f) s.heap.size = A at hD hZA ⊢
  have hA : ∀ q : Nat, s.heap.size ≤ q → A q := fun q h => by rw [← hAe]; exact Or.inr h
  have hZ := hZA
  have hS : va_S A s.heap s.heap [] := va_S.rf
  have hl := lv_entry ([.ref (ad 0), .ref t0, .int x0]) (n := 11) (Nat.le_of_ble_eq_true rfl)
  rw [lg_entry_eq]
  generalize (lg_sl ([.ref (ad 0), .ref t0, .int x0]) ++ List.replicate (11 - (lg_sl ([.ref (ad 0), .ref t0, .int x0])).length) Slot.unset).toArray = ls at hl ⊢
  have hl : lv_has ls 11 [(0, .ref (ad 0)), (1, .ref t0), (2, .int x0)] := hl
  have hP : va_P D vwCl (((clsW cI cZ ad cx) ++ [(t0, .inr (4, [.ref lw, .ref rk, .ref hs, .ref em, .int mt, .int qn]))]) ++ va_pl L f) s.heap := hP
  obtain ⟨K, ha, ea, rr, qS⟩ := id hSP
  obtain ⟨⟨lw1, lw2, gl, lw3, lw4⟩, ⟨rk1, rk2, gg, rk3, rk4⟩, ⟨hs1, hs2, gs, hs3, hs4⟩, ⟨em1, em2, ge, em3, em4⟩, q5, q6, q7⟩ := id qS
  refine lv_iload_n hx hb dL_act_0 rfl (lv_at hl 2 rfl) ?_
  refine lz_iconst hx hb dL_act_1 (fun x_1 v_1 => ?_)
  refine lv_ishr hx hb dL_act_2 ?_
  refine lv_topi (fun x_2 e_2 => ?_)
  refine lz_iconst hx hb dL_act_3 (fun x_3 v_3 => ?_)
  refine cr_i (va_runS (As := [.int x_2, .int x_3]) (rest := []) ⟨hx, hb, hml, hown, hts⟩ (k_L_below l D cI cZ cJ cK _ x_2 x_3 2 (v_3.trans (congrArg iI (by omega))) (by omega) (by omega)) (va_cwS 2 hts (gS qw513 qw514 qw9 qw515) rfl rfl rfl (by decide +kernel) ⟨Nat.le_of_ble_eq_true rfl, Nat.le_of_ble_eq_true rfl⟩) (ps hP hD hK hT hZ hS [] rfl rfl) rfl rfl hl.1 rfl (lv_room (Nat.le_of_ble_eq_true rfl)) dL_act_4 ⟨Nat.le_of_ble_eq_true rfl, Nat.le_of_ble_eq_true rfl⟩) hS hP (fun x_4 H locs hw_4 hP hS => ?_)
  have hw_4 : (x_4 = iI (↑(bel x_2 2))) := hw_4
  have v_4 := hw_4
  obtain ⟨h, hh2, hh⟩ : ∃ h : Nat, h < 2 ∧ x_4 = iI ↑h := ⟨_, bel_lt x_2 (by decide), v_4⟩
  refine lv_istore_n (lv' := [(3, .int x_4), (0, .ref (ad 0)), (1, .ref t0), (2, .int x0)]) hx hb dL_act_7 rfl hl (by decide) rfl (fun ls hl => ?_)
  refine lv_aload_n hx hb dL_act_8 rfl (lv_at hl 2 rfl) ?_
  refine va_get (D := D) (ci := 4) (v := .ref em) (C := RX4) (T := TX4) (N := 6) hx hb hts iX4 hown hK hP 24 rfl rfl 3 (by decide) (hts _ qw621) (fun _ h9 => h9) rfl dL_act_9 ?_
  refine rd_alen hx hb hK hP 2 (pl_mem em1 em3) rfl dL_act_12 (fun x_12 v_12 => ?_)
  have v_12 : x_12 = iI (↑(aN Z)) := v_12
  refine lv_istore (lv' := [(4, .int x_12), (3, .int x_4), (0, .ref (ad 0)), (1, .ref t0), (2, .int x0)]) hx hb dL_act_13 hl (by decide) rfl (fun ls hl => ?_)
  refine lv_aload_n hx hb dL_act_15 rfl (lv_at hl 3 rfl) ?_
  refine lv_iload_n hx hb dL_act_16 rfl (lv_at hl 1 rfl) ?_
  refine cp_r (wr := (clsW cI cZ ad cx)) (ws2 := fun u9 => (((clsW cI cZ ad cx) ++ [(t0, .inr (4, [.ref lw, .ref rk, .ref hs, .ref em, .int mt, .int qn]))]) ++ va_pl u9.1 u9.2)) (va_runV (As := [.int x_4]) (rest := []) ⟨hx, hb, hml, hown, hts⟩ (k_X4_all l D cI cZ cJ cK _ t0 x_4 lw rk hs em mt qn L f h (aN Z) (aH Z) (aM Z) (aK Z) (aL Z) (aG Z) (rwA Z) (hSP) (hh.trans (congrArg iI (by omega))) (hh2) (by rw [rw_all hI hh2]; have := (AI_len hI hh2).1; have := hI.1; omega)) (cwV 1 hts (gV qw525 qw489 qw490 qw14 qw491) rfl rfl rfl (by decide +kernel) ⟨Nat.le_of_ble_eq_true rfl, Nat.le_of_ble_eq_true rfl⟩) (pvP (ci := 4) (r := (RX4, TX4, 6)) (q0 := 24) (wr := (clsW cI cZ ad cx)) hP hD hK hT hZ hS (pm_1 _ _ _) rfl rfl) rfl rfl hl.1 rfl (lv_room (Nat.le_of_ble_eq_true rfl)) dL_act_17 ⟨Nat.le_of_ble_eq_true rfl, Nat.le_of_ble_eq_true rfl⟩) hS hP hD hA (pm_1 _ _ _) (fun _ => (pm_1 _ _ _).symm) (fun x_17 u_17 H locs hw_17 hP hD hS => ?_)
  obtain ⟨L2_17, f2_17⟩ := u_17
  have hP : va_P D vwCl (((clsW cI cZ ad cx) ++ [(t0, .inr (4, [.ref lw, .ref rk, .ref hs, .ref em, .int mt, .int qn]))]) ++ va_pl L2_17 f2_17) H := hP
  have hD : va_D A (((clsW cI cZ ad cx) ++ [(t0, .inr (4, [.ref lw, .ref rk, .ref hs, .ref em, .int mt, .int qn]))]) ++ va_pl L2_17 f2_17) := hD
  have hw_17 : (pExt L f L2_17 f2_17) ∧ (x_17 ∈ L2_17) ∧ (x_17 ∉ L) ∧ (rowE cI (catR ((rwA Z) h) 11) (f2_17 x_17)) := hw_17
  obtain ⟨e_17, i_17, o_17, v_17⟩ := hw_17
  rw [rw_all hI hh2] at v_17
  have hSP2 := SimP.ext hSP e_17
  obtain ⟨ga, hfa, hga⟩ := id v_17
  obtain ⟨m1, m2, m3⟩ := AI_len hI hh2
  have m4 := hI.1
  refine lv_astore (lv' := [(5, .ref x_17), (4, .int x_12), (3, .int x_4), (0, .ref (ad 0)), (1, .ref t0), (2, .int x0)]) hx hb dL_act_20 hl (by decide) rfl (fun ls hl => ?_)
  refine lv_iload_n hx hb dL_act_22 rfl (lv_at hl 5 rfl) ?_
  refine lz_bipush hx hb (by decide) dL_act_23 (fun x_23 v_23 => ?_)
  refine cr_i (va_runS (As := [.int x0, .int x_23]) (rest := []) ⟨hx, hb, hml, hown, hts⟩ (k_L_below l D cI cZ cJ cK _ x0 x_23 14 (v_23.trans (congrArg iI (by omega))) (by omega) (by omega)) (va_cwS 2 hts (gS qw513 qw514 qw9 qw515) rfl rfl rfl (by decide +kernel) ⟨Nat.le_of_ble_eq_true rfl, Nat.le_of_ble_eq_true rfl⟩) (ps hP hD hK hT hZ hS [] rfl rfl) rfl rfl hl.1 rfl (lv_room (Nat.le_of_ble_eq_true rfl)) dL_act_25 ⟨Nat.le_of_ble_eq_true rfl, Nat.le_of_ble_eq_true rfl⟩) hS hP (fun x_25 H locs hw_25 hP hS => ?_)
  have hw_25 : (x_25 = iI (↑(bel x0 14))) := hw_25
  have v_25 := hw_25
  have hb14 := bel_lt x0 (show 0 < 14 by decide)
  have t_28 : x_25.toInt = ↑(bel x0 14) := by rw [v_25]; exact iI_t (by omega)
  rcases (show ↑(bel x0 14) = 0 ∨ ↑(bel x0 14) = 1 ∨ ↑(bel x0 14) = 2 ∨ ↑(bel x0 14) = 3 ∨ ↑(bel x0 14) = 4 ∨ ↑(bel x0 14) = 5 ∨ (↑(bel x0 14) < 0 ∨ 5 < ↑(bel x0 14)) by omega) with c_28 | c_28 | c_28 | c_28 | c_28 | c_28 | c_28
  · exfalso; omega
  · exfalso; omega
  · refine lv_tableIn (off := 67) (tgt := 95) hx hb dL_act_28 (by rw [t_28]; omega) (by rw [t_28]; omega) (by rw [t_28, c_28]; rfl) (by decide) ?_
    refine lv_aload hx hb dL_act_95 (lv_at hl 0 rfl) ?_
    refine rd_alen hx hb hK hP 0 (pl_mem i_17 hfa) rfl dL_act_97 (fun x_97 v_97 => ?_)
    have v_97 : x_97 = iI (↑((aR Z h).length)) := v_97
    refine lz_if_ne (tgt := 103) hx hb v_97 (by omega) dL_act_98 (by decide) (fun c_98 => ?_) (fun c_98 => ?_)
    · have hlp : 0 < (aR Z h).length := by omega
      refine lv_aload hx hb dL_act_103 (lv_at hl 0 rfl) ?_
      refine lv_iload_n hx hb dL_act_105 rfl (lv_at hl 5 rfl) ?_
      refine lz_iconst hx hb dL_act_106 (fun x_106 v_106 => ?_)
      refine lv_ishr hx hb dL_act_107 ?_
      refine lv_topi (fun x_107 e_107 => ?_)
      refine lv_aload hx hb dL_act_108 (lv_at hl 0 rfl) ?_
      refine rd_alen hx hb hK hP 0 (pl_mem i_17 hfa) rfl dL_act_110 (fun x_110 v_110 => ?_)
      have v_110 : x_110 = iI (↑((aR Z h).length)) := v_110
      refine cr_i (va_runS (As := [.int x_107, .int x_110]) (rest := [.ref x_17]) ⟨hx, hb, hml, hown, hts⟩ (k_L_below l D cI cZ cJ cK _ x_107 x_110 ((aR Z h).length) (v_110.trans (congrArg iI (by omega))) (by omega) (by omega)) (va_cwS 2 hts (gS qw513 qw514 qw9 qw515) rfl rfl rfl (by decide +kernel) ⟨Nat.le_of_ble_eq_true rfl, Nat.le_of_ble_eq_true rfl⟩) (ps hP hD hK hT hZ hS [] rfl rfl) rfl rfl hl.1 rfl (lv_room (Nat.le_of_ble_eq_true rfl)) dL_act_111 ⟨Nat.le_of_ble_eq_true rfl, Nat.le_of_ble_eq_true rfl⟩) hS hP (fun x_111 H locs hw_111 hP hS => ?_)
      have hw_111 : (x_111 = iI (↑(bel x_107 ((aR Z h).length)))) := hw_111
      have v_111 := hw_111
      have hb1 := bel_lt x_107 hlp
      refine rd_iald hx hb hK hP 0 (pl_mem i_17 hfa) rfl v_111 ((bel x_107 ((aR Z h).length))) (by omega) (by omega) (by omega) dL_act_114 (fun x_114 e_114 => ?_)
      have v_114 : x_114 = iI (↑((aR Z h).getD (bel x_107 ((aR Z h).length)) 0)) := e_114.trans (hga _ (by omega))
      obtain ⟨eb, heb⟩ : ∃ eb, eb = (aR Z h).getD (bel x_107 (aR Z h).length) 0 := ⟨_, rfl⟩
      have v_114 : x_114 = iI (↑eb) := by
        rw [heb]
        exact v_114
      have hein : eb ∈ aR Z h := by
        rw [heb]
        exact getD_in hb1
      obtain ⟨w1, w2, w3, w4, w5, w6⟩ := rw_in hI hh2 hein
      refine lv_istore (lv' := [(7, .int x_114), (5, .ref x_17), (4, .int x_12), (3, .int x_4), (0, .ref (ad 0)), (1, .ref t0), (2, .int x0)]) hx hb dL_act_115 hl (by decide) rfl (fun ls hl => ?_)
      obtain ⟨K, ha, ea, rr, qS⟩ := id hSP2
      obtain ⟨⟨lw1, lw2, gl, lw3, lw4⟩, ⟨rk1, rk2, gg, rk3, rk4⟩, ⟨hs1, hs2, gs, hs3, hs4⟩, ⟨em1, em2, ge, em3, em4⟩, q5, q6, q7⟩ := id qS
      obtain ⟨ea1, ea2, gx, ea3, ea4, ea5, ea6⟩ := q7 eb w3
      refine lv_aload_n hx hb dL_act_117 rfl (lv_at hl 5 rfl) ?_
      refine va_get (D := D) (ci := 4) (v := .ref lw) (C := RX4) (T := TX4) (N := 6) hx hb hts iX4 hown hK hP 24 rfl rfl 0 (by decide) (hts _ qw617) (fun _ h9 => h9) rfl dL_act_118 ?_
      refine lv_iload_n hx hb dL_act_121 rfl (lv_at hl 3 rfl) ?_
      refine rd_iald hx hb hK hP 0 (pl_mem lw1 lw3) rfl hh (h) (by omega) (by omega) (by omega) dL_act_122 (fun x_122 e_122 => ?_)
      have v_122 : x_122 = iI (↑(aL Z h)) := e_122.trans (lw4 _ (by omega))
      refine lv_istore (lv' := [(8, .int x_122), (7, .int x_114), (5, .ref x_17), (4, .int x_12), (3, .int x_4), (0, .ref (ad 0)), (1, .ref t0), (2, .int x0)]) hx hb dL_act_123 hl (by decide) rfl (fun ls hl => ?_)
      refine lv_aload_n hx hb dL_act_125 rfl (lv_at hl 6 rfl) ?_
      refine va_get (D := D) (ci := 4) (v := .ref em) (C := RX4) (T := TX4) (N := 6) hx hb hts iX4 hown hK hP 24 rfl rfl 3 (by decide) (hts _ qw621) (fun _ h9 => h9) rfl dL_act_126 ?_
      refine lv_iload hx hb dL_act_129 (lv_at hl 1 rfl) ?_
      refine rd_aald hx hb hK hP 2 (pl_mem em1 em3) rfl v_114 (eb) (by omega) (by omega) (by omega) (em4 _ (by omega)) dL_act_131 ?_
      refine lz_iconst hx hb dL_act_132 (fun x_132 v_132 => ?_)
      refine rd_iald hx hb hK hP 0 (pl_mem ea1 ea3) rfl v_132 (0) (by omega) (by omega) (by omega) dL_act_133 (fun x_133 e_133 => ?_)
      have v_133 : x_133 = iI (↑(aH Z eb)) := e_133.trans (ea4)
      refine lv_istore (lv' := [(9, .int x_133), (8, .int x_122), (7, .int x_114), (5, .ref x_17), (4, .int x_12), (3, .int x_4), (0, .ref (ad 0)), (1, .ref t0), (2, .int x0)]) hx hb dL_act_134 hl (by decide) rfl (fun ls hl => ?_)
      refine lv_iload hx hb dL_act_136 (lv_at hl 0 rfl) ?_
      refine lv_iload hx hb dL_act_138 (lv_at hl 1 rfl) ?_
      refine lz_icmp_ne (tgt := 145) hx hb v_133 v_122 ⟨by omega, by omega⟩ dL_act_140 (by decide) (fun c_140 => ?_) (fun c_140 => ?_)
      · have hlt : aL Z h < aH Z eb := by omega
        refine lv_iload hx hb dL_act_145 (lv_at hl 1 rfl) ?_
        refine lv_iload_n hx hb dL_act_147 rfl (lv_at hl 8 rfl) ?_
        refine lz_iconst hx hb dL_act_148 (fun x_148 v_148 => ?_)
        refine lv_ishr hx hb dL_act_149 ?_
        refine lv_topi (fun x_149 e_149 => ?_)
        refine lv_iload hx hb dL_act_150 (lv_at hl 0 rfl) ?_
        refine lv_iload hx hb dL_act_152 (lv_at hl 1 rfl) ?_
        refine lz_isub hx hb v_133 v_122 dL_act_154 (fun x_154 v_154 => ?_)
        refine cr_i (va_runS (As := [.int x_149, .int x_154]) (rest := [.int x_122]) ⟨hx, hb, hml, hown, hts⟩ (k_L_below l D cI cZ cJ cK _ x_149 x_154 ((aH Z eb) - (aL Z h)) (v_154.trans (congrArg iI (by omega))) (by omega) (by omega)) (va_cwS 2 hts (gS qw513 qw514 qw9 qw515) rfl rfl rfl (by decide +kernel) ⟨Nat.le_of_ble_eq_true rfl, Nat.le_of_ble_eq_true rfl⟩) (ps hP hD hK hT hZ hS [] rfl rfl) rfl rfl hl.1 rfl (lv_room (Nat.le_of_ble_eq_true rfl)) dL_act_155 ⟨Nat.le_of_ble_eq_true rfl, Nat.le_of_ble_eq_true rfl⟩) hS hP (fun x_155 H locs hw_155 hP hS => ?_)
        have hw_155 : (x_155 = iI (↑(bel x_149 ((aH Z eb) - (aL Z h))))) := hw_155
        have v_155 := hw_155
        have hb2 := bel_lt x_149 (k := aH Z eb - aL Z h) (by omega)
        refine lz_iadd hx hb v_122 v_155 dL_act_158 (fun x_158 v_158 => ?_)
        obtain ⟨xx, hxx⟩ : ∃ xx, xx = aL Z h + bel x_149 (aH Z eb - aL Z h) := ⟨_, rfl⟩
        have v_158 : x_158 = iI (↑xx) := v_158.trans (congrArg iI (by omega))
        refine lv_istore (lv' := [(10, .int x_158), (9, .int x_133), (8, .int x_122), (7, .int x_114), (5, .ref x_17), (4, .int x_12), (3, .int x_4), (0, .ref (ad 0)), (1, .ref t0), (2, .int x0)]) hx hb dL_act_159 hl (by decide) rfl (fun ls hl => ?_)
        refine lv_aload_n hx hb dL_act_161 rfl (lv_at hl 8 rfl) ?_
        refine lv_iload hx hb dL_act_162 (lv_at hl 3 rfl) ?_
        refine cp_v (wr := (clsW cI cZ ad cx)) (ws2 := fun u9 => (((clsW cI cZ ad cx) ++ [(t0, .inr (4, [.ref lw, .ref rk, .ref hs, .ref em, .int mt, .int qn]))]) ++ va_pl u9.1 u9.2)) (va_runV (As := [.int x_114]) (rest := []) ⟨hx, hb, hml, hown, hts⟩ (k_X4_takeOut l D cI cZ cJ cK _ t0 x_114 lw rk hs em mt qn L2_17 f2_17 h (bk (aL Z h) (aH Z eb)) eb (aN Z) (aH Z) (aM Z) (aK Z) (aL Z) (aG Z) (rwA Z) (hSP2) (v_114.trans (congrArg iI (by omega))) (by omega) (rw_bd hI) (by omega) (w1) (w2) (rw_uq hI hh2 w2)) (cwV 1 hts (gV qw526 qw527 qw528 qw14 qw529) rfl rfl rfl (by decide +kernel) ⟨Nat.le_of_ble_eq_true rfl, Nat.le_of_ble_eq_true rfl⟩) (pvP (ci := 4) (r := (RX4, TX4, 6)) (q0 := 24) (wr := (clsW cI cZ ad cx)) hP hD hK hT hZ hS (pm_1 _ _ _) rfl rfl) rfl rfl hl.1 rfl (lv_room (Nat.le_of_ble_eq_true rfl)) dL_act_164 ⟨Nat.le_of_ble_eq_true rfl, Nat.le_of_ble_eq_true rfl⟩) hS hP hD hA (pm_1 _ _ _) (fun _ => (pm_1 _ _ _).symm) (fun u_164 H locs hw_164 hP hD hS => ?_)
        obtain ⟨L2_164, f2_164⟩ := u_164
        have hP : va_P D vwCl (((clsW cI cZ ad cx) ++ [(t0, .inr (4, [.ref lw, .ref rk, .ref hs, .ref em, .int mt, .int qn]))]) ++ va_pl L2_164 f2_164) H := hP
        have hD : va_D A (((clsW cI cZ ad cx) ++ [(t0, .inr (4, [.ref lw, .ref rk, .ref hs, .ref em, .int mt, .int qn]))]) ++ va_pl L2_164 f2_164) := hD
        have hw_164 : (SimP cI cJ cK (aN Z) (aH Z) (aM Z) (aK Z) (aL Z) (aG Z) (va_up (rwA Z) h (va_up ((rwA Z) h) (bk (aL Z h) (aH Z eb)) (((rwA Z) h (bk (aL Z h) (aH Z eb))).filter (fun y => decide (y ≠ eb))))) lw rk hs em L2_164 f2_164) := hw_164
        have v_164 := hw_164
        clear qS
        obtain ⟨K, ha, ea, rr, qS⟩ := id v_164
        obtain ⟨⟨lw1, lw2, gl, lw3, lw4⟩, ⟨rk1, rk2, gg, rk3, rk4⟩, ⟨hs1, hs2, gs, hs3, hs4⟩, ⟨em1, em2, ge, em3, em4⟩, q5, q6, q7⟩ := id qS
        obtain ⟨ea1, ea2, gx, ea3, ea4, ea5, ea6⟩ := q7 eb w3
        refine lv_aload_n hx hb dL_act_167 rfl (lv_at hl 8 rfl) ?_
        refine va_get (D := D) (ci := 4) (v := .ref em) (C := RX4) (T := TX4) (N := 6) hx hb hts iX4 hown hK hP 24 rfl rfl 3 (by decide) (hts _ qw621) (fun _ h9 => h9) rfl dL_act_168 ?_
        refine lv_iload hx hb dL_act_171 (lv_at hl 3 rfl) ?_
        refine rd_aald hx hb hK hP 2 (pl_mem em1 em3) rfl v_114 (eb) (by omega) (by omega) (by omega) (em4 _ (by omega)) dL_act_173 ?_
        refine lz_iconst hx hb dL_act_174 (fun x_174 v_174 => ?_)
        refine lv_iload hx hb dL_act_175 (lv_at hl 0 rfl) ?_
        refine pl_iast hx hb hK hP hD hS 0 ea1 ea3 rfl v_174 (0) (by omega) (by omega) (by omega) dL_act_177 (fun f_177 H locs e_177 hP hD hS => ?_)
        have hP : va_P D vwCl (((clsW cI cZ ad cx) ++ [(t0, .inr (4, [.ref lw, .ref rk, .ref hs, .ref em, .int mt, .int qn]))]) ++ va_pl L2_164 (va_up f2_164 (ea eb) (.inl (cI, 3, .inl f_177)))) H := hP
        have hD : va_D A (((clsW cI cZ ad cx) ++ [(t0, .inr (4, [.ref lw, .ref rk, .ref hs, .ref em, .int mt, .int qn]))]) ++ va_pl L2_164 (va_up f2_164 (ea eb) (.inl (cI, 3, .inl f_177)))) := hD
        have hS3 := SimK.emb (g2 := f_177) (Hh2 := va_up (aH Z) eb xx) (mv2 := aM Z) (rv2 := aK Z) qS w3 rfl (by rw [e_177, upd_s, va_up_self]; exact v_158) (by rw [e_177, upd_n _ _ (by omega)]; exact ea5) (by rw [e_177, upd_n _ _ (by omega)]; exact ea6) (fun e he => ⟨va_up_ne _ _ he, rfl, rfl⟩)
        obtain ⟨wk, hSQ3⟩ := SimQ.of hS3.P
        refine lv_aload_n hx hb dL_act_178 rfl (lv_at hl 8 rfl) ?_
        refine lv_iload_n hx hb dL_act_179 rfl (lv_at hl 6 rfl) ?_
        refine lv_iload hx hb dL_act_180 (lv_at hl 3 rfl) ?_
        refine cp_v (wr := (clsW cI cZ ad cx)) (ws2 := fun u9 => (((clsW cI cZ ad cx) ++ [(t0, .inr (4, [.ref lw, .ref rk, .ref hs, .ref em, .int mt, .int qn]))]) ++ va_pl u9.1 u9.2)) (va_runV (As := [.int x_4, .int x_114]) (rest := []) ⟨hx, hb, hml, hown, hts⟩ (k_X4_put l D cI cZ cJ cK _ t0 x_4 x_114 lw rk hs em mt qn L2_164 (va_up f2_164 (ea eb) (.inl (cI, 3, .inl f_177))) h eb (aN Z) (va_up (aH Z) eb xx) (aM Z) (aK Z) (aL Z) (aG Z) (va_up (rwA Z) h (va_up (rwA Z h) (bk (aL Z h) (aH Z eb)) ((rwA Z h (bk (aL Z h) (aH Z eb))).filter (fun y => decide (y ≠ eb))))) wk ((va_up (rwA Z) h (va_up (rwA Z h) (bk (aL Z h) (aH Z eb)) ((rwA Z h (bk (aL Z h) (aH Z eb))).filter (fun y => decide (y ≠ eb))))) 0 0) (hSQ3) (hh.trans (congrArg iI (by omega))) (by omega) (v_114.trans (congrArg iI (by omega))) (w3) (m4) (by rw [va_up_self]; omega) (by omega) (fun b _ => r0_len hI hh2 hein b)) (cwV 2 hts (gV qw530 qw469 qw470 qw14 qw471) rfl rfl rfl (by decide +kernel) ⟨Nat.le_of_ble_eq_true rfl, Nat.le_of_ble_eq_true rfl⟩) (pvP (ci := 4) (r := (RX4, TX4, 6)) (q0 := 24) (wr := (clsW cI cZ ad cx)) hP hD hK hT hZ hS (pm_1 _ _ _) rfl rfl) rfl rfl hl.1 rfl (lv_room (Nat.le_of_ble_eq_true rfl)) dL_act_182 ⟨Nat.le_of_ble_eq_true rfl, Nat.le_of_ble_eq_true rfl⟩) hS hP hD hA (pm_1 _ _ _) (fun _ => (pm_1 _ _ _).symm) (fun u_182 H locs hw_182 hP hD hS => ?_)
        obtain ⟨L2_182, f2_182⟩ := u_182
        have hP : va_P D vwCl (((clsW cI cZ ad cx) ++ [(t0, .inr (4, [.ref lw, .ref rk, .ref hs, .ref em, .int mt, .int qn]))]) ++ va_pl L2_182 f2_182) H := hP
        have hD : va_D A (((clsW cI cZ ad cx) ++ [(t0, .inr (4, [.ref lw, .ref rk, .ref hs, .ref em, .int mt, .int qn]))]) ++ va_pl L2_182 f2_182) := hD
        have hw_182 : (SimQ cI cJ cK (aN Z) (va_up (aH Z) eb xx) (aM Z) (aK Z) (aL Z) (aG Z) (putR (ka ((aL Z) h) (va_up (aH Z) eb xx)) h (va_up (rwA Z) h (va_up (rwA Z h) (bk (aL Z h) (aH Z eb)) ((rwA Z h (bk (aL Z h) (aH Z eb))).filter (fun y => decide (y ≠ eb))))) eb) lw rk hs em L2_182 f2_182 wk ((va_up (rwA Z) h (va_up (rwA Z h) (bk (aL Z h) (aH Z eb)) ((rwA Z h (bk (aL Z h) (aH Z eb))).filter (fun y => decide (y ≠ eb))))) 0 0)) := hw_182
        have v_182 := hw_182
        have hSP4 := SM_fad hI hh2 hein v_182.P
        clear qS
        obtain ⟨K, ha, ea, rr, qS, qw, qk, qM⟩ := id v_182
        obtain ⟨⟨lw1, lw2, gl, lw3, lw4⟩, ⟨rk1, rk2, gg, rk3, rk4⟩, ⟨hs1, hs2, gs, hs3, hs4⟩, ⟨em1, em2, ge, em3, em4⟩, q5, q6, q7⟩ := id qS
        have hb10 : bk (aL Z h) xx ≤ 10 := bk_le10 (by omega) (by omega)
        refine lv_aload_n hx hb dL_act_185 rfl (lv_at hl 7 rfl) ?_
        refine lv_iload hx hb dL_act_186 (lv_at hl 3 rfl) ?_
        refine lv_iload hx hb dL_act_188 (lv_at hl 0 rfl) ?_
        refine cp_i (wr := ([(t0, .inr (4, [.ref lw, .ref rk, .ref hs, .ref em, .int mt, .int qn]))] ++ va_pl L2_182 f2_182)) (ws2 := fun u9 => (((clsW cI cZ ad u9) ++ [(t0, .inr (4, [.ref lw, .ref rk, .ref hs, .ref em, .int mt, .int qn]))]) ++ va_pl L2_182 f2_182)) (va_runV (As := [.int x_114, .int x_158]) (rest := []) ⟨hx, hb, hml, hown, hts⟩ (k_X3_fade_P l D cI cZ cJ cK _ x_114 x_158 ad Z cx h eb xx hl0 hC hI (by omega) (v_114.trans (congrArg iI (by omega))) (w3) (w4) (v_158.trans (congrArg iI (by omega))) (by omega) (by omega)) (cwV 2 hts (gV qw531 qw532 qw533 qw10 qw534) rfl rfl rfl (by decide +kernel) ⟨Nat.le_of_ble_eq_true rfl, Nat.le_of_ble_eq_true rfl⟩) (pvP (ci := 3) (r := (RX3, TX3, 5)) (q0 := 0) (wr := ([(t0, .inr (4, [.ref lw, .ref rk, .ref hs, .ref em, .int mt, .int qn]))] ++ va_pl L2_182 f2_182)) hP hD hK hT hZ hS (pm_2 _ _ _) rfl rfl) rfl rfl hl.1 rfl (lv_room (Nat.le_of_ble_eq_true rfl)) dL_act_190 ⟨Nat.le_of_ble_eq_true rfl, Nat.le_of_ble_eq_true rfl⟩) hS hP hD hA (pm_2 _ _ _) (fun _ => (pm_2 _ _ _).symm) (fun x_190 u_190 H locs hw_190 hP hD hS => ?_)
        obtain ⟨cx2_190, rfl⟩ : ∃ z, z = u_190 := ⟨_, rfl⟩
        have hP : va_P D vwCl (((clsW cI cZ ad cx2_190) ++ [(t0, .inr (4, [.ref lw, .ref rk, .ref hs, .ref em, .int mt, .int qn]))]) ++ va_pl L2_182 f2_182) H := hP
        have hD : va_D A (((clsW cI cZ ad cx2_190) ++ [(t0, .inr (4, [.ref lw, .ref rk, .ref hs, .ref em, .int mt, .int qn]))]) ++ va_pl L2_182 f2_182) := hD
        have hw_190 : (x_190 = iI (↑(bk (aL Z h) xx))) ∧ (CStx (fadA Z h eb xx) cx2_190) := hw_190
        obtain ⟨v_190, c_190⟩ := hw_190
        refine lv_aload_n hx hb dL_act_193 rfl (lv_at hl 8 rfl) ?_
        refine lv_iload_n hx hb dL_act_194 rfl (lv_at hl 6 rfl) ?_
        refine lv_iload hx hb dL_act_195 (lv_at hl 0 rfl) ?_
        refine cr_i (va_runV (As := [.int x_4, .int x_158]) (rest := [.int x_190]) ⟨hx, hb, hml, hown, hts⟩ (k_X4_bucket l D cI cZ cJ cK _ t0 x_4 x_158 lw rk hs em mt qn L2_182 f2_182 h xx (aL Z h) (lw1) (⟨gl, lw3, lw4 h hh2⟩) (hh.trans (congrArg iI (by omega))) (by omega) (v_158.trans (congrArg iI (by omega))) (by omega) (by omega)) (cwV 2 hts (gV qw546 qw473 qw474 qw14 qw475) rfl rfl rfl (by decide +kernel) ⟨Nat.le_of_ble_eq_true rfl, Nat.le_of_ble_eq_true rfl⟩) (pvP (ci := 4) (r := (RX4, TX4, 6)) (q0 := 24) (wr := (clsW cI cZ ad cx2_190)) hP hD hK hT hZ hS (pm_1 _ _ _) rfl rfl) rfl rfl hl.1 rfl (lv_room (Nat.le_of_ble_eq_true rfl)) dL_act_197 ⟨Nat.le_of_ble_eq_true rfl, Nat.le_of_ble_eq_true rfl⟩) hS hP (fun x_197 H locs hw_197 hP hS => ?_)
        have hw_197 : (x_197 = iI (↑(bk (aL Z h) xx))) := hw_197
        have v_197 := hw_197
        refine lz_icmp_ne (tgt := 207) hx hb v_190 v_197 ⟨by omega, by omega⟩ dL_act_200 (by decide) (fun c_200 => ?_) (fun c_200 => ?_)
        · exfalso; omega
        · refine lz_iconst hx hb dL_act_203 (fun x_203 v_203 => ?_)
          refine lv_goto (tgt := 208) hx hb dL_act_204 (by decide) ?_
          have hP9 := hP
          have hD9 := hD
          refine W.widen (k := 176) (n := 6417) (by omega) (by omega) ?_
          exact W.zret (v := x_203) (ty := .boolean) hx hb hr (by rw [v_203]; decide) (fun t ht hW => ⟨⟨x_203, ⟨(fadA Z h eb xx), cx2_190, em, mt, qn, L2_182, f2_182⟩, rfl, ⟨v_203, c_190, AI_fad hI hh2 w3 w4 (by omega) (by omega), PI_fad hI hPI hh2 hein, hSP4, hmt, hqn, fun _ k hk => Nat.le_refl _⟩, ⟨by rw [ht]; exact hP9, hD9⟩⟩, hS.F ht⟩) hS.2.2 dL_act_208
      · refine lz_iconst hx hb dL_act_143 (fun x_143 v_143 => ?_)
        have hP9 := hP
        have hD9 := hD
        refine W.widen (k := 176) (n := 6417) (by omega) (by omega) ?_
        exact W.zret (v := x_143) (ty := .boolean) hx hb hr (by rw [v_143]; decide) (fun t ht hW => ⟨⟨x_143, ⟨Z, cx, em, mt, qn, L2_17, f2_17⟩, rfl, ⟨v_143, hC, hI, hPI, hSP2, hmt, hqn, fun _ k hk => Nat.le_refl _⟩, ⟨by rw [ht]; exact hP9, hD9⟩⟩, hS.F ht⟩) hS.2.2 dL_act_144
    · refine lz_iconst hx hb dL_act_101 (fun x_101 v_101 => ?_)
      have hP9 := hP
      have hD9 := hD
      refine W.widen (k := 176) (n := 6417) (by omega) (by omega) ?_
      exact W.zret (v := x_101) (ty := .boolean) hx hb hr (by rw [v_101]; decide) (fun t ht hW => ⟨⟨x_101, ⟨Z, cx, em, mt, qn, L2_17, f2_17⟩, rfl, ⟨v_101, hC, hI, hPI, hSP2, hmt, hqn, fun _ k hk => Nat.le_refl _⟩, ⟨by rw [ht]; exact hP9, hD9⟩⟩, hS.F ht⟩) hS.2.2 dL_act_102
  · exfalso; omega
  · exfalso; omega
  · exfalso; omega
  · exfalso; omega
