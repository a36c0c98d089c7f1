/-! the law's own step: what it needs of the state -/
section ACT
variable {Z : va_AS} {h : Nat}
theorem rw_len (Z : va_AS) (h b : Nat) : (rwA Z h b).length ≤ (aR Z h).length := List.length_filter_le _ _
theorem low_rak (hI : AI Z) (hh : h < 2) (hne : aR Z h ≠ []) (k : Nat) : aL Z k ≤ aL (rakA Z h) k := by
  show aL Z k ≤ va_up (aL Z) h (rkLo (aL Z h) (aH Z) (aR Z h)) k
  by_cases c : k = h
  · subst c
    rw [va_up_self]
    unfold rkLo
    split
    · exact Nat.le_refl _
    · exact (rk_low (hI.2.2.1 k hh).2.1 hne).2.1
  · rw [va_up_ne _ _ c]
    exact Nat.le_refl _
theorem low_rai {x : Nat} (hx : aL Z h ≤ x) (k : Nat) : aL Z k ≤ aL (raiA Z h x) k := by
  show aL Z k ≤ va_up (aL Z) h x k
  by_cases c : k = h
  · subst c
    rw [va_up_self]
    exact hx
  · rw [va_up_ne _ _ c]
    exact Nat.le_refl _
theorem lo_min (hI : AI Z) (hh : h < 2) : aL Z h ≤ minL (aH Z) (aR Z h) ∧ aL Z h < 1024 := by
  obtain ⟨-, j2, j3⟩ := hI.2.2.1 h hh
  refine ⟨?_, j3⟩
  rcases minL_of (aH Z) (aR Z h) with q | ⟨x, hx, q⟩
  · rw [q]
    omega
  · rw [← q]
    exact (j2.2.2 x hx).1
theorem r0_len (hI : AI Z) (hh : h < 2) {e : Nat} (he : e ∈ aR Z h) (b : Nat) : (va_up (rwA Z) h (va_up (rwA Z h) (bk (aL Z h) (aH Z e)) ((rwA Z h (bk (aL Z h) (aH Z e))).filter (fun y => decide (y ≠ e)))) h b).length ≤ 39 := by
  rw [← RS_que hI hh he h b]
  have h1 := rw_len (queA Z h e) h b
  have h2 : aR (queA Z h e) h = del (aR Z h) e := va_up_self _ _ _
  rw [h2] at h1
  have h3 := del_len he
  have h4 := (AI_len hI hh).1
  have h5 := hI.1
  omega
theorem pou_len (hI : AI Z) (hh : h < 2) (b : Nat) : (rwA Z (1 - h) b).length + (aR Z h).length ≤ 40 := by
  have h1 := rw_len Z (1 - h) b
  have h2 := two_len (hI.2.2.1 0 (by decide)).1 (hI.2.2.1 1 (by decide)).1 (hI.2.2.1 0 (by decide)).2.1.2.1 (hI.2.2.1 1 (by decide)).2.1.2.1
  have h3 := hI.1
  rcases (show h = 0 ∨ h = 1 by omega) with rfl | rfl
  · have h1 : (rwA Z 1 b).length ≤ (aR Z 1).length := h1
    show (rwA Z 1 b).length + _ ≤ 40
    omega
  · have h1 : (rwA Z 0 b).length ≤ (aR Z 0).length := h1
    show (rwA Z 0 b).length + _ ≤ 40
    omega
end ACT
set_option maxHeartbeats 4000000 in
set_option maxRecDepth 100000 in
theorem k_L_act_a (l : Launch) (hl0 : l.stackTraces = false) (D : va_G) (cI cZ cJ cK : ClassId) (hz9 : Nat) (t0 : Nat) (x0 : Int32) (lw : Nat) (rk : Nat) (hs : Nat) (em : Nat) (mt : Int32) (qn : Int32) (L : List Nat) (f : Nat → va_E) (ad : Nat → Nat) (Z : va_AS) (cx : CX) (hC : CStx Z cx) (hI : AI Z) (hPI : PI Z) (hSP : SMA cI cJ cK Z lw rk hs em L f) (hmt : mt = aT Z) (hqn : qn = aQ Z) (hcs : bel x0 14 < 2) : Met l yL_act (wh_ yL_act cL_act 11 (Option.some .boolean) [(257, 265, 268, 65), (385, 392, 395, 65), (452, 461, 464, 65)]) ({ frames := 8, cells := 176, slots := 6417, locals := 143 }) (va_Pc [.ref (ad 0), .ref t0, .int x0] (wPre D cI cZ cJ cK hz9 (((clsW cI cZ ad cx) ++ [(t0, .inr (4, [.ref lw, .ref rk, .ref hs, .ref em, .int mt, .int qn]))]) ++ va_pl L f))) (va_Qi (fun r (u : va_AS × CX × Nat × Int32 × Int32 × List Nat × (Nat → va_E)) => (r = iI (1)) ∧ (CStx u.1 u.2.1) ∧ (AI u.1) ∧ (PI u.1) ∧ (SMA cI cJ cK u.1 lw rk hs u.2.2.1 u.2.2.2.2.2.1 u.2.2.2.2.2.2) ∧ (u.2.2.2.1 = aT u.1) ∧ (u.2.2.2.2.1 = aQ u.1) ∧ (bel x0 14 ≠ 5 → ∀ k, k < 2 → aL Z k ≤ aL u.1 k)) (fun (u : va_AS × CX × Nat × Int32 × Int32 × List Nat × (Nat → va_E)) t => wPost D (va_A (((clsW cI cZ ad cx) ++ [(t0, .inr (4, [.ref lw, .ref rk, .ref hs, .ref em, .int mt, .int qn]))]) ++ va_pl L f) hz9) (((clsW cI cZ ad u.2.1) ++ [(t0, .inr (4, [.ref lw, .ref rk, .ref hs, .ref u.2.2.1, .int u.2.2.2.1, .int u.2.2.2.2.1]))]) ++ va_pl u.2.2.2.2.2.1 u.2.2.2.2.2.2) t) (va_A (((clsW cI cZ ad cx) ++ [(t0, .inr (4, [.ref lw, .ref rk, .ref hs, .ref em, .int mt, .int qn]))]) ++ va_pl L f) hz9)) 176 6417 (va_A (((clsW cI cZ ad cx) ++ [(t0, .inr (4, [.ref lw, .ref rk, .ref hs, .ref em, .int mt, .int qn]))]) ++ va_pl L f) hz9) := by
  refine va_ofWH (cc := cL_act) (maxL := 11) (ret := (Option.some .boolean)) (hh := [(257, 265, 268, 65), (385, 392, 395, 65), (452, 461, 464, 65)]) (by decide) rfl ?_
  intro p e s m args below meth c s₁ hBd hml hv
  obtain ⟨rfl, hsz, hP, hD, hK, hT, hZ⟩ := hv
  have hx := hBd.exec
  have hb := hBd.bytes
  have hr := hBd.returns
  have hts : ∀ w ∈ lw_G, w.before _ s = true := fun w h => atoms_spec (ws := (wh_ yL_act cL_act 11 (Option.some .boolean) [(257, 265, 268, 65), (385, 392, 395, 65), (452, 461, 464, 65)])) hBd.pre w (List.mem_cons_of_mem _ h)
  have htab : c.exceptionTable.toList = [⟨257, 265, 268, 65⟩, ⟨385, 392, 395, 65⟩, ⟨452, 461, 464, 65⟩] := vx_table (x := yL_act) hBd (hts _ qw523)
  have hown : s.vm.findClass RL = some m.cls := findClass_of_methodNamed hBd.named
  have hlocks := hBd.notSynchronized
  subst hsz
  have hD := hD.self (sz := s.heap.size)
  have hZA := hZ.own hP
  generalize hAe : va_A (((clsW cI cZ ad cx) ++ [(t0, .inr (4, [.ref lw, .ref rk, .ref hs, .ref em, .int mt, .int qn]))]) ++ va_pl L f) s.heap.size = A at hD hZA ⊢
  have hA : ∀ q : Nat, s.heap.size ≤ q → A q := fun q h => by rw [← hAe]; exact Or.inr h
  have hZ := hZA
  have hS : va_S A s.heap s.heap [] := va_S.rf
  have hl := lv_entry ([.ref (ad 0), .ref t0, .int x0]) (n := 11) (Nat.le_of_ble_eq_true rfl)
  rw [lg_entry_eq]
  generalize (lg_sl ([.ref (ad 0), .ref t0, .int x0]) ++ List.replicate (11 - (lg_sl ([.ref (ad 0), .ref t0, .int x0])).length) Slot.unset).toArray = ls at hl ⊢
  have hl : lv_has ls 11 [(0, .ref (ad 0)), (1, .ref t0), (2, .int x0)] := hl
  have hP : va_P D vwCl (((clsW cI cZ ad cx) ++ [(t0, .inr (4, [.ref lw, .ref rk, .ref hs, .ref em, .int mt, .int qn]))]) ++ va_pl L f) s.heap := hP
  obtain ⟨K, ha, ea, rr, qS⟩ := id hSP
  obtain ⟨⟨lw1, lw2, gl, lw3, lw4⟩, ⟨rk1, rk2, gg, rk3, rk4⟩, ⟨hs1, hs2, gs, hs3, hs4⟩, ⟨em1, em2, ge, em3, em4⟩, q5, q6, q7⟩ := id qS
  refine lv_iload_n hx hb dL_act_0 rfl (lv_at hl 2 rfl) ?_
  refine lz_iconst hx hb dL_act_1 (fun x_1 v_1 => ?_)
  refine lv_ishr hx hb dL_act_2 ?_
  refine lv_topi (fun x_2 e_2 => ?_)
  refine lz_iconst hx hb dL_act_3 (fun x_3 v_3 => ?_)
  refine cr_i (va_runS (As := [.int x_2, .int x_3]) (rest := []) ⟨hx, hb, hml, hown, hts⟩ (k_L_below l D cI cZ cJ cK _ x_2 x_3 2 (v_3.trans (congrArg iI (by omega))) (by omega) (by omega)) (va_cwS 2 hts (gS qw513 qw514 qw9 qw515) rfl rfl rfl (by decide +kernel) ⟨Nat.le_of_ble_eq_true rfl, Nat.le_of_ble_eq_true rfl⟩) (ps hP hD hK hT hZ hS [] rfl rfl) rfl rfl hl.1 rfl (lv_room (Nat.le_of_ble_eq_true rfl)) dL_act_4 ⟨Nat.le_of_ble_eq_true rfl, Nat.le_of_ble_eq_true rfl⟩) hS hP (fun x_4 H locs hw_4 hP hS => ?_)
  have hw_4 : (x_4 = iI (↑(bel x_2 2))) := hw_4
  have v_4 := hw_4
  obtain ⟨h, hh2, hh⟩ : ∃ h : Nat, h < 2 ∧ x_4 = iI ↑h := ⟨_, bel_lt x_2 (by decide), v_4⟩
  refine lv_istore_n (lv' := [(3, .int x_4), (0, .ref (ad 0)), (1, .ref t0), (2, .int x0)]) hx hb dL_act_7 rfl hl (by decide) rfl (fun ls hl => ?_)
  refine lv_aload_n hx hb dL_act_8 rfl (lv_at hl 2 rfl) ?_
  refine va_get (D := D) (ci := 4) (v := .ref em) (C := RX4) (T := TX4) (N := 6) hx hb hts iX4 hown hK hP 24 rfl rfl 3 (by decide) (hts _ qw621) (fun _ h9 => h9) rfl dL_act_9 ?_
  refine rd_alen hx hb hK hP 2 (pl_mem em1 em3) rfl dL_act_12 (fun x_12 v_12 => ?_)
  have v_12 : x_12 = iI (↑(aN Z)) := v_12
  refine lv_istore (lv' := [(4, .int x_12), (3, .int x_4), (0, .ref (ad 0)), (1, .ref t0), (2, .int x0)]) hx hb dL_act_13 hl (by decide) rfl (fun ls hl => ?_)
  refine lv_aload_n hx hb dL_act_15 rfl (lv_at hl 3 rfl) ?_
  refine lv_iload_n hx hb dL_act_16 rfl (lv_at hl 1 rfl) ?_
  refine cp_r (wr := (clsW cI cZ ad cx)) (ws2 := fun u9 => (((clsW cI cZ ad cx) ++ [(t0, .inr (4, [.ref lw, .ref rk, .ref hs, .ref em, .int mt, .int qn]))]) ++ va_pl u9.1 u9.2)) (va_runV (As := [.int x_4]) (rest := []) ⟨hx, hb, hml, hown, hts⟩ (k_X4_all l D cI cZ cJ cK _ t0 x_4 lw rk hs em mt qn L f h (aN Z) (aH Z) (aM Z) (aK Z) (aL Z) (aG Z) (rwA Z) (hSP) (hh.trans (congrArg iI (by omega))) (hh2) (by rw [rw_all hI hh2]; have := (AI_len hI hh2).1; have := hI.1; omega)) (cwV 1 hts (gV qw525 qw489 qw490 qw14 qw491) rfl rfl rfl (by decide +kernel) ⟨Nat.le_of_ble_eq_true rfl, Nat.le_of_ble_eq_true rfl⟩) (pvP (ci := 4) (r := (RX4, TX4, 6)) (q0 := 24) (wr := (clsW cI cZ ad cx)) hP hD hK hT hZ hS (pm_1 _ _ _) rfl rfl) rfl rfl hl.1 rfl (lv_room (Nat.le_of_ble_eq_true rfl)) dL_act_17 ⟨Nat.le_of_ble_eq_true rfl, Nat.le_of_ble_eq_true rfl⟩) hS hP hD hA (pm_1 _ _ _) (fun _ => (pm_1 _ _ _).symm) (fun x_17 u_17 H locs hw_17 hP hD hS => ?_)
  obtain ⟨L2_17, f2_17⟩ := u_17
  have hP : va_P D vwCl (((clsW cI cZ ad cx) ++ [(t0, .inr (4, [.ref lw, .ref rk, .ref hs, .ref em, .int mt, .int qn]))]) ++ va_pl L2_17 f2_17) H := hP
  have hD : va_D A (((clsW cI cZ ad cx) ++ [(t0, .inr (4, [.ref lw, .ref rk, .ref hs, .ref em, .int mt, .int qn]))]) ++ va_pl L2_17 f2_17) := hD
  have hw_17 : (pExt L f L2_17 f2_17) ∧ (x_17 ∈ L2_17) ∧ (x_17 ∉ L) ∧ (rowE cI (catR ((rwA Z) h) 11) (f2_17 x_17)) := hw_17
  obtain ⟨e_17, i_17, o_17, v_17⟩ := hw_17
  rw [rw_all hI hh2] at v_17
  have hSP2 := SimP.ext hSP e_17
  obtain ⟨ga, hfa, hga⟩ := id v_17
  obtain ⟨m1, m2, m3⟩ := AI_len hI hh2
  have m4 := hI.1
  refine lv_astore (lv' := [(5, .ref x_17), (4, .int x_12), (3, .int x_4), (0, .ref (ad 0)), (1, .ref t0), (2, .int x0)]) hx hb dL_act_20 hl (by decide) rfl (fun ls hl => ?_)
  refine lv_iload_n hx hb dL_act_22 rfl (lv_at hl 5 rfl) ?_
  refine lz_bipush hx hb (by decide) dL_act_23 (fun x_23 v_23 => ?_)
  refine cr_i (va_runS (As := [.int x0, .int x_23]) (rest := []) ⟨hx, hb, hml, hown, hts⟩ (k_L_below l D cI cZ cJ cK _ x0 x_23 14 (v_23.trans (congrArg iI (by omega))) (by omega) (by omega)) (va_cwS 2 hts (gS qw513 qw514 qw9 qw515) rfl rfl rfl (by decide +kernel) ⟨Nat.le_of_ble_eq_true rfl, Nat.le_of_ble_eq_true rfl⟩) (ps hP hD hK hT hZ hS [] rfl rfl) rfl rfl hl.1 rfl (lv_room (Nat.le_of_ble_eq_true rfl)) dL_act_25 ⟨Nat.le_of_ble_eq_true rfl, Nat.le_of_ble_eq_true rfl⟩) hS hP (fun x_25 H locs hw_25 hP hS => ?_)
  have hw_25 : (x_25 = iI (↑(bel x0 14))) := hw_25
  have v_25 := hw_25
  have hb14 := bel_lt x0 (show 0 < 14 by decide)
  have t_28 : x_25.toInt = ↑(bel x0 14) := by rw [v_25]; exact iI_t (by omega)
  rcases (show ↑(bel x0 14) = 0 ∨ ↑(bel x0 14) = 1 ∨ ↑(bel x0 14) = 2 ∨ ↑(bel x0 14) = 3 ∨ ↑(bel x0 14) = 4 ∨ ↑(bel x0 14) = 5 ∨ (↑(bel x0 14) < 0 ∨ 5 < ↑(bel x0 14)) by omega) with c_28 | c_28 | c_28 | c_28 | c_28 | c_28 | c_28
  · refine lv_tableIn (off := 40) (tgt := 68) hx hb dL_act_28 (by rw [t_28]; omega) (by rw [t_28]; omega) (by rw [t_28, c_28]; rfl) (by decide) ?_
    refine lv_aload hx hb dL_act_68 (lv_at hl 0 rfl) ?_
    refine rd_alen hx hb hK hP 0 (pl_mem i_17 hfa) rfl dL_act_70 (fun x_70 v_70 => ?_)
    have v_70 : x_70 = iI (↑((aR Z h).length)) := v_70
    refine lz_if_ne (tgt := 76) hx hb v_70 (by omega) dL_act_71 (by decide) (fun c_71 => ?_) (fun c_71 => ?_)
    · have hne : aR Z h ≠ [] := fun z => c_71 (by rw [z]; rfl)
      have hx40 : ((rkL (aL Z h) (aH Z) (aR Z h)).headD 0) < 40 := by
        have := m2 _ (rkX_in hI hh2 hne).1
        show rkX Z h < 40
        omega
      refine lv_aload_n hx hb dL_act_76 rfl (lv_at hl 3 rfl) ?_
      refine lv_iload_n hx hb dL_act_77 rfl (lv_at hl 2 rfl) ?_
      refine cp_i (wr := ([(t0, .inr (4, [.ref lw, .ref rk, .ref hs, .ref em, .int mt, .int qn]))] ++ va_pl L2_17 f2_17)) (ws2 := fun u9 => (((clsW cI cZ ad u9) ++ [(t0, .inr (4, [.ref lw, .ref rk, .ref hs, .ref em, .int mt, .int qn]))]) ++ va_pl L2_17 f2_17)) (va_runV (As := [.int x_4]) (rest := []) ⟨hx, hb, hml, hown, hts⟩ (k_X3_rake_P l D cI cZ cJ cK _ x_4 ad Z cx h hl0 hC hI (hh.trans (congrArg iI (by omega))) (by omega) (by omega)) (cwV 1 hts (gV qw115 qw116 qw117 qw10 qw118) rfl rfl rfl (by decide +kernel) ⟨Nat.le_of_ble_eq_true rfl, Nat.le_of_ble_eq_true rfl⟩) (pvP (ci := 3) (r := (RX3, TX3, 5)) (q0 := 0) (wr := ([(t0, .inr (4, [.ref lw, .ref rk, .ref hs, .ref em, .int mt, .int qn]))] ++ va_pl L2_17 f2_17)) hP hD hK hT hZ hS (pm_2 _ _ _) rfl rfl) rfl rfl hl.1 rfl (lv_room (Nat.le_of_ble_eq_true rfl)) dL_act_78 ⟨Nat.le_of_ble_eq_true rfl, Nat.le_of_ble_eq_true rfl⟩) hS hP hD hA (pm_2 _ _ _) (fun _ => (pm_2 _ _ _).symm) (fun x_78 u_78 H locs hw_78 hP hD hS => ?_)
      obtain ⟨cx2_78, rfl⟩ : ∃ z, z = u_78 := ⟨_, rfl⟩
      have hP : va_P D vwCl (((clsW cI cZ ad cx2_78) ++ [(t0, .inr (4, [.ref lw, .ref rk, .ref hs, .ref em, .int mt, .int qn]))]) ++ va_pl L2_17 f2_17) H := hP
      have hD : va_D A (((clsW cI cZ ad cx2_78) ++ [(t0, .inr (4, [.ref lw, .ref rk, .ref hs, .ref em, .int mt, .int qn]))]) ++ va_pl L2_17 f2_17) := hD
      have hw_78 : (x_78 = iI (↑((rkL (aL Z h) (aH Z) (aR Z h)).headD 0))) ∧ (CStx (rakA Z h) cx2_78) := hw_78
      obtain ⟨v_78, c_78⟩ := hw_78
      refine lv_aload_n hx hb dL_act_81 rfl (lv_at hl 4 rfl) ?_
      refine lv_iload_n hx hb dL_act_82 rfl (lv_at hl 2 rfl) ?_
      rcases (show (rkF (aL Z h) (aH Z) (aR Z h) = 0) ∨ (¬ rkF (aL Z h) (aH Z) (aR Z h) = 0) by omega) with q9 | q9
      · obtain ⟨r1, r2, r3, r4, r5⟩ := RS_rak0 hI hh2 hne q9
        refine cp_i (wr := (clsW cI cZ ad cx2_78)) (ws2 := fun u9 => (((clsW cI cZ ad cx2_78) ++ [(t0, .inr (4, [.ref lw, .ref rk, .ref hs, .ref em, .int mt, .int qn]))]) ++ va_pl u9.1 u9.2)) (va_runV (As := [.int x_4]) (rest := [.int x_78]) ⟨hx, hb, hml, hown, hts⟩ (k_X4_rake_0 l D cI cZ cJ cK _ t0 x_4 lw rk hs em mt qn L2_17 f2_17 h 0 (aN Z) (aH Z) (aM Z) (aK Z) (aL Z) (aG Z) (rwA Z) (hSP2) (hh.trans (congrArg iI (by omega))) (hh2) (by decide) (rfl) (fun j hj => absurd hj (Nat.not_lt_zero j)) (r2) (m4) (r2) (fun x hx9 => m2 x (rw_mem.mp hx9).1) (rw40 hI h hh2 0) (fun b _ => rw40 hI h hh2 b)) (cwV 1 hts (gV qw459 qw460 qw461 qw14 qw462) rfl rfl rfl (by decide +kernel) ⟨Nat.le_of_ble_eq_true rfl, Nat.le_of_ble_eq_true rfl⟩) (pvP (ci := 4) (r := (RX4, TX4, 6)) (q0 := 24) (wr := (clsW cI cZ ad cx2_78)) hP hD hK hT hZ hS (pm_1 _ _ _) rfl rfl) rfl rfl hl.1 rfl (lv_room (Nat.le_of_ble_eq_true rfl)) dL_act_83 ⟨Nat.le_of_ble_eq_true rfl, Nat.le_of_ble_eq_true rfl⟩) hS hP hD hA (pm_1 _ _ _) (fun _ => (pm_1 _ _ _).symm) (fun x_83 u_83 H locs hw_83 hP hD hS => ?_)
        obtain ⟨L2_83, f2_83⟩ := u_83
        have hP : va_P D vwCl (((clsW cI cZ ad cx2_78) ++ [(t0, .inr (4, [.ref lw, .ref rk, .ref hs, .ref em, .int mt, .int qn]))]) ++ va_pl L2_83 f2_83) H := hP
        have hD : va_D A (((clsW cI cZ ad cx2_78) ++ [(t0, .inr (4, [.ref lw, .ref rk, .ref hs, .ref em, .int mt, .int qn]))]) ++ va_pl L2_83 f2_83) := hD
        have hw_83 : (x_83 = iI (↑(((rwA Z) h 0).getD 0 0))) ∧ (SimP cI cJ cK (aN Z) (aH Z) (aM Z) (va_up (aK Z) (((rwA Z) h 0).getD 0 0) 1) (aL Z) (upd (aG Z) h ((aG Z) h + iI 1)) (va_up (rwA Z) h (va_up ((rwA Z) h) 0 (((rwA Z) h 0).filter (fun y => decide (y ≠ (((rwA Z) h 0).getD 0 0)))))) lw rk hs em L2_83 f2_83) := hw_83
        obtain ⟨v_83, w_83⟩ := hw_83
        have hv83 : x_83 = iI (↑((rkL (aL Z h) (aH Z) (aR Z h)).headD 0)) := v_83.trans (congrArg (fun z : Nat => iI ↑z) r1)
        obtain ⟨hSP3, ht3⟩ := SM_rak0 hI hh2 hne q9 w_83
        refine lz_icmp_ne (tgt := 93) hx hb v_78 hv83 ⟨by omega, by omega⟩ dL_act_86 (by decide) (fun c_86 => ?_) (fun c_86 => ?_)
        · exfalso; omega
        · refine lz_iconst hx hb dL_act_89 (fun x_89 v_89 => ?_)
          refine lv_goto (tgt := 94) hx hb dL_act_90 (by decide) ?_
          have hP9 := hP
          have hD9 := hD
          refine W.widen (k := 176) (n := 6417) (by omega) (by omega) ?_
          exact W.zret (v := x_89) (ty := .boolean) hx hb hr (by rw [v_89]; decide) (fun t ht hW => ⟨⟨x_89, ⟨(rakA Z h), cx2_78, em, mt, qn, L2_83, f2_83⟩, rfl, ⟨v_89, c_78, AI_rak hI hh2 hne, PI_rak hI hPI hh2 hne, hSP3, hmt.trans ht3, hqn, fun _ k hk => low_rak hI hh2 hne k⟩, ⟨by rw [ht]; exact hP9, hD9⟩⟩, hS.F ht⟩) hS.2.2 dL_act_94
      · obtain ⟨k1, k2, k3, k4⟩ := RK_fst hI hh2 hne
        obtain ⟨r1, r2, r3, r4, r5, r6, r7, r8⟩ := RS_rakp hI hh2 hne rfl q9 rfl
        refine cp_i (wr := (clsW cI cZ ad cx2_78)) (ws2 := fun u9 => (((clsW cI cZ ad cx2_78) ++ [(t0, .inr (4, [.ref lw, .ref rk, .ref hs, .ref em, .int u9.1, .int qn]))]) ++ va_pl u9.2.1 u9.2.2)) (va_runV (As := [.int x_4]) (rest := [.int x_78]) ⟨hx, hb, hml, hown, hts⟩ (k_X4_rake_p l D cI cZ cJ cK _ t0 x_4 lw rk hs em mt qn L2_17 f2_17 h (rkF (aL Z h) (aH Z) (aR Z h)) (aN Z) (aH Z) (aM Z) (aK Z) (aL Z) (aG Z) (rwA Z) (hSP2) (hh.trans (congrArg iI (by omega))) (hh2) (k1) (by omega) (k2) (k4) (m4) (r2) (fun x hx9 => m2 x (r3 x hx9)) (r4) (fun x hx9 => m2 x (rw_mem.mp hx9).1) (fun e he => (hI.2.1 e he).1) (r7) (rw40 hI h hh2 _) (fun b _ => rw40 hI h hh2 b)) (cwV 1 hts (gV qw459 qw460 qw461 qw14 qw462) rfl rfl rfl (by decide +kernel) ⟨Nat.le_of_ble_eq_true rfl, Nat.le_of_ble_eq_true rfl⟩) (pvP (ci := 4) (r := (RX4, TX4, 6)) (q0 := 24) (wr := (clsW cI cZ ad cx2_78)) hP hD hK hT hZ hS (pm_1 _ _ _) rfl rfl) rfl rfl hl.1 rfl (lv_room (Nat.le_of_ble_eq_true rfl)) dL_act_83 ⟨Nat.le_of_ble_eq_true rfl, Nat.le_of_ble_eq_true rfl⟩) hS hP hD hA (pm_1 _ _ _) (fun _ => (pm_1 _ _ _).symm) (fun x_83 u_83 H locs hw_83 hP hD hS => ?_)
        obtain ⟨m2_83, L2_83, f2_83⟩ := u_83
        have hP : va_P D vwCl (((clsW cI cZ ad cx2_78) ++ [(t0, .inr (4, [.ref lw, .ref rk, .ref hs, .ref em, .int m2_83, .int qn]))]) ++ va_pl L2_83 f2_83) H := hP
        have hD : va_D A (((clsW cI cZ ad cx2_78) ++ [(t0, .inr (4, [.ref lw, .ref rk, .ref hs, .ref em, .int m2_83, .int qn]))]) ++ va_pl L2_83 f2_83) := hD
        have hw_83 : (x_83 = iI (↑(((mvR (ka (minL (aH Z) ((rwA Z) h (rkF (aL Z h) (aH Z) (aR Z h)))) (aH Z)) h (va_up (rwA Z) h (va_up ((rwA Z) h) (rkF (aL Z h) (aH Z) (aR Z h)) [])) ((rwA Z) h (rkF (aL Z h) (aH Z) (aR Z h)))) h 0).getD 0 0))) ∧ (SimP cI cJ cK (aN Z) (aH Z) (mvA 1 (aM Z) ((rwA Z) h (rkF (aL Z h) (aH Z) (aR Z h)))) (va_up (aK Z) (((mvR (ka (minL (aH Z) ((rwA Z) h (rkF (aL Z h) (aH Z) (aR Z h)))) (aH Z)) h (va_up (rwA Z) h (va_up ((rwA Z) h) (rkF (aL Z h) (aH Z) (aR Z h)) [])) ((rwA Z) h (rkF (aL Z h) (aH Z) (aR Z h)))) h 0).getD 0 0) 1) (va_up (aL Z) h (minL (aH Z) ((rwA Z) h (rkF (aL Z h) (aH Z) (aR Z h))))) (upd (aG Z) h ((aG Z) h + iI 1)) (va_up (mvR (ka (minL (aH Z) ((rwA Z) h (rkF (aL Z h) (aH Z) (aR Z h)))) (aH Z)) h (va_up (rwA Z) h (va_up ((rwA Z) h) (rkF (aL Z h) (aH Z) (aR Z h)) [])) ((rwA Z) h (rkF (aL Z h) (aH Z) (aR Z h)))) h (va_up ((mvR (ka (minL (aH Z) ((rwA Z) h (rkF (aL Z h) (aH Z) (aR Z h)))) (aH Z)) h (va_up (rwA Z) h (va_up ((rwA Z) h) (rkF (aL Z h) (aH Z) (aR Z h)) [])) ((rwA Z) h (rkF (aL Z h) (aH Z) (aR Z h)))) h) 0 (((mvR (ka (minL (aH Z) ((rwA Z) h (rkF (aL Z h) (aH Z) (aR Z h)))) (aH Z)) h (va_up (rwA Z) h (va_up ((rwA Z) h) (rkF (aL Z h) (aH Z) (aR Z h)) [])) ((rwA Z) h (rkF (aL Z h) (aH Z) (aR Z h)))) h 0).filter (fun y => decide (y ≠ (((mvR (ka (minL (aH Z) ((rwA Z) h (rkF (aL Z h) (aH Z) (aR Z h)))) (aH Z)) h (va_up (rwA Z) h (va_up ((rwA Z) h) (rkF (aL Z h) (aH Z) (aR Z h)) [])) ((rwA Z) h (rkF (aL Z h) (aH Z) (aR Z h)))) h 0).getD 0 0)))))) lw rk hs em L2_83 f2_83) ∧ (m2_83 = mt + iI ↑((rwA Z) h (rkF (aL Z h) (aH Z) (aR Z h))).length) := hw_83
        obtain ⟨v_83, w_83, m_83⟩ := hw_83
        have hv83 : x_83 = iI (↑((rkL (aL Z h) (aH Z) (aR Z h)).headD 0)) := v_83.trans (congrArg (fun z : Nat => iI ↑z) r1)
        obtain ⟨hSP3, ht3⟩ := SM_rakp hI hh2 hne q9 rfl rfl w_83
        refine lz_icmp_ne (tgt := 93) hx hb v_78 hv83 ⟨by omega, by omega⟩ dL_act_86 (by decide) (fun c_86 => ?_) (fun c_86 => ?_)
        · exfalso; omega
        · refine lz_iconst hx hb dL_act_89 (fun x_89 v_89 => ?_)
          refine lv_goto (tgt := 94) hx hb dL_act_90 (by decide) ?_
          have hP9 := hP
          have hD9 := hD
          refine W.widen (k := 176) (n := 6417) (by omega) (by omega) ?_
          exact W.zret (v := x_89) (ty := .boolean) hx hb hr (by rw [v_89]; decide) (fun t ht hW => ⟨⟨x_89, ⟨(rakA Z h), cx2_78, em, m2_83, qn, L2_83, f2_83⟩, rfl, ⟨v_89, c_78, AI_rak hI hh2 hne, PI_rak hI hPI hh2 hne, hSP3, m_83.trans ((congrArg (fun z => z + _) hmt).trans ht3), hqn, fun _ k hk => low_rak hI hh2 hne k⟩, ⟨by rw [ht]; exact hP9, hD9⟩⟩, hS.F ht⟩) hS.2.2 dL_act_94
    · refine lz_iconst hx hb dL_act_74 (fun x_74 v_74 => ?_)
      have hP9 := hP
      have hD9 := hD
      refine W.widen (k := 176) (n := 6417) (by omega) (by omega) ?_
      exact W.zret (v := x_74) (ty := .boolean) hx hb hr (by rw [v_74]; decide) (fun t ht hW => ⟨⟨x_74, ⟨Z, cx, em, mt, qn, L2_17, f2_17⟩, rfl, ⟨v_74, hC, hI, hPI, hSP2, hmt, hqn, fun _ k hk => Nat.le_refl _⟩, ⟨by rw [ht]; exact hP9, hD9⟩⟩, hS.F ht⟩) hS.2.2 dL_act_75
  · refine lv_tableIn (off := 40) (tgt := 68) hx hb dL_act_28 (by rw [t_28]; omega) (by rw [t_28]; omega) (by rw [t_28, c_28]; rfl) (by decide) ?_
    refine lv_aload hx hb dL_act_68 (lv_at hl 0 rfl) ?_
    refine rd_alen hx hb hK hP 0 (pl_mem i_17 hfa) rfl dL_act_70 (fun x_70 v_70 => ?_)
    have v_70 : x_70 = iI (↑((aR Z h).length)) := v_70
    refine lz_if_ne (tgt := 76) hx hb v_70 (by omega) dL_act_71 (by decide) (fun c_71 => ?_) (fun c_71 => ?_)
    · have hne : aR Z h ≠ [] := fun z => c_71 (by rw [z]; rfl)
      have hx40 : ((rkL (aL Z h) (aH Z) (aR Z h)).headD 0) < 40 := by
        have := m2 _ (rkX_in hI hh2 hne).1
        show rkX Z h < 40
        omega
      refine lv_aload_n hx hb dL_act_76 rfl (lv_at hl 3 rfl) ?_
      refine lv_iload_n hx hb dL_act_77 rfl (lv_at hl 2 rfl) ?_
      refine cp_i (wr := ([(t0, .inr (4, [.ref lw, .ref rk, .ref hs, .ref em, .int mt, .int qn]))] ++ va_pl L2_17 f2_17)) (ws2 := fun u9 => (((clsW cI cZ ad u9) ++ [(t0, .inr (4, [.ref lw, .ref rk, .ref hs, .ref em, .int mt, .int qn]))]) ++ va_pl L2_17 f2_17)) (va_runV (As := [.int x_4]) (rest := []) ⟨hx, hb, hml, hown, hts⟩ (k_X3_rake_P l D cI cZ cJ cK _ x_4 ad Z cx h hl0 hC hI (hh.trans (congrArg iI (by omega))) (by omega) (by omega)) (cwV 1 hts (gV qw115 qw116 qw117 qw10 qw118) rfl rfl rfl (by decide +kernel) ⟨Nat.le_of_ble_eq_true rfl, Nat.le_of_ble_eq_true rfl⟩) (pvP (ci := 3) (r := (RX3, TX3, 5)) (q0 := 0) (wr := ([(t0, .inr (4, [.ref lw, .ref rk, .ref hs, .ref em, .int mt, .int qn]))] ++ va_pl L2_17 f2_17)) hP hD hK hT hZ hS (pm_2 _ _ _) rfl rfl) rfl rfl hl.1 rfl (lv_room (Nat.le_of_ble_eq_true rfl)) dL_act_78 ⟨Nat.le_of_ble_eq_true rfl, Nat.le_of_ble_eq_true rfl⟩) hS hP hD hA (pm_2 _ _ _) (fun _ => (pm_2 _ _ _).symm) (fun x_78 u_78 H locs hw_78 hP hD hS => ?_)
      obtain ⟨cx2_78, rfl⟩ : ∃ z, z = u_78 := ⟨_, rfl⟩
      have hP : va_P D vwCl (((clsW cI cZ ad cx2_78) ++ [(t0, .inr (4, [.ref lw, .ref rk, .ref hs, .ref em, .int mt, .int qn]))]) ++ va_pl L2_17 f2_17) H := hP
      have hD : va_D A (((clsW cI cZ ad cx2_78) ++ [(t0, .inr (4, [.ref lw, .ref rk, .ref hs, .ref em, .int mt, .int qn]))]) ++ va_pl L2_17 f2_17) := hD
      have hw_78 : (x_78 = iI (↑((rkL (aL Z h) (aH Z) (aR Z h)).headD 0))) ∧ (CStx (rakA Z h) cx2_78) := hw_78
      obtain ⟨v_78, c_78⟩ := hw_78
      refine lv_aload_n hx hb dL_act_81 rfl (lv_at hl 4 rfl) ?_
      refine lv_iload_n hx hb dL_act_82 rfl (lv_at hl 2 rfl) ?_
      rcases (show (rkF (aL Z h) (aH Z) (aR Z h) = 0) ∨ (¬ rkF (aL Z h) (aH Z) (aR Z h) = 0) by omega) with q9 | q9
      · obtain ⟨r1, r2, r3, r4, r5⟩ := RS_rak0 hI hh2 hne q9
        refine cp_i (wr := (clsW cI cZ ad cx2_78)) (ws2 := fun u9 => (((clsW cI cZ ad cx2_78) ++ [(t0, .inr (4, [.ref lw, .ref rk, .ref hs, .ref em, .int mt, .int qn]))]) ++ va_pl u9.1 u9.2)) (va_runV (As := [.int x_4]) (rest := [.int x_78]) ⟨hx, hb, hml, hown, hts⟩ (k_X4_rake_0 l D cI cZ cJ cK _ t0 x_4 lw rk hs em mt qn L2_17 f2_17 h 0 (aN Z) (aH Z) (aM Z) (aK Z) (aL Z) (aG Z) (rwA Z) (hSP2) (hh.trans (congrArg iI (by omega))) (hh2) (by decide) (rfl) (fun j hj => absurd hj (Nat.not_lt_zero j)) (r2) (m4) (r2) (fun x hx9 => m2 x (rw_mem.mp hx9).1) (rw40 hI h hh2 0) (fun b _ => rw40 hI h hh2 b)) (cwV 1 hts (gV qw459 qw460 qw461 qw14 qw462) rfl rfl rfl (by decide +kernel) ⟨Nat.le_of_ble_eq_true rfl, Nat.le_of_ble_eq_true rfl⟩) (pvP (ci := 4) (r := (RX4, TX4, 6)) (q0 := 24) (wr := (clsW cI cZ ad cx2_78)) hP hD hK hT hZ hS (pm_1 _ _ _) rfl rfl) rfl rfl hl.1 rfl (lv_room (Nat.le_of_ble_eq_true rfl)) dL_act_83 ⟨Nat.le_of_ble_eq_true rfl, Nat.le_of_ble_eq_true rfl⟩) hS hP hD hA (pm_1 _ _ _) (fun _ => (pm_1 _ _ _).symm) (fun x_83 u_83 H locs hw_83 hP hD hS => ?_)
        obtain ⟨L2_83, f2_83⟩ := u_83
        have hP : va_P D vwCl (((clsW cI cZ ad cx2_78) ++ [(t0, .inr (4, [.ref lw, .ref rk, .ref hs, .ref em, .int mt, .int qn]))]) ++ va_pl L2_83 f2_83) H := hP
        have hD : va_D A (((clsW cI cZ ad cx2_78) ++ [(t0, .inr (4, [.ref lw, .ref rk, .ref hs, .ref em, .int mt, .int qn]))]) ++ va_pl L2_83 f2_83) := hD
        have hw_83 : (x_83 = iI (↑(((rwA Z) h 0).getD 0 0))) ∧ (SimP cI cJ cK (aN Z) (aH Z) (aM Z) (va_up (aK Z) (((rwA Z) h 0).getD 0 0) 1) (aL Z) (upd (aG Z) h ((aG Z) h + iI 1)) (va_up (rwA Z) h (va_up ((rwA Z) h) 0 (((rwA Z) h 0).filter (fun y => decide (y ≠ (((rwA Z) h 0).getD 0 0)))))) lw rk hs em L2_83 f2_83) := hw_83
        obtain ⟨v_83, w_83⟩ := hw_83
        have hv83 : x_83 = iI (↑((rkL (aL Z h) (aH Z) (aR Z h)).headD 0)) := v_83.trans (congrArg (fun z : Nat => iI ↑z) r1)
        obtain ⟨hSP3, ht3⟩ := SM_rak0 hI hh2 hne q9 w_83
        refine lz_icmp_ne (tgt := 93) hx hb v_78 hv83 ⟨by omega, by omega⟩ dL_act_86 (by decide) (fun c_86 => ?_) (fun c_86 => ?_)
        · exfalso; omega
        · refine lz_iconst hx hb dL_act_89 (fun x_89 v_89 => ?_)
          refine lv_goto (tgt := 94) hx hb dL_act_90 (by decide) ?_
          have hP9 := hP
          have hD9 := hD
          refine W.widen (k := 176) (n := 6417) (by omega) (by omega) ?_
          exact W.zret (v := x_89) (ty := .boolean) hx hb hr (by rw [v_89]; decide) (fun t ht hW => ⟨⟨x_89, ⟨(rakA Z h), cx2_78, em, mt, qn, L2_83, f2_83⟩, rfl, ⟨v_89, c_78, AI_rak hI hh2 hne, PI_rak hI hPI hh2 hne, hSP3, hmt.trans ht3, hqn, fun _ k hk => low_rak hI hh2 hne k⟩, ⟨by rw [ht]; exact hP9, hD9⟩⟩, hS.F ht⟩) hS.2.2 dL_act_94
      · obtain ⟨k1, k2, k3, k4⟩ := RK_fst hI hh2 hne
        obtain ⟨r1, r2, r3, r4, r5, r6, r7, r8⟩ := RS_rakp hI hh2 hne rfl q9 rfl
        refine cp_i (wr := (clsW cI cZ ad cx2_78)) (ws2 := fun u9 => (((clsW cI cZ ad cx2_78) ++ [(t0, .inr (4, [.ref lw, .ref rk, .ref hs, .ref em, .int u9.1, .int qn]))]) ++ va_pl u9.2.1 u9.2.2)) (va_runV (As := [.int x_4]) (rest := [.int x_78]) ⟨hx, hb, hml, hown, hts⟩ (k_X4_rake_p l D cI cZ cJ cK _ t0 x_4 lw rk hs em mt qn L2_17 f2_17 h (rkF (aL Z h) (aH Z) (aR Z h)) (aN Z) (aH Z) (aM Z) (aK Z) (aL Z) (aG Z) (rwA Z) (hSP2) (hh.trans (congrArg iI (by omega))) (hh2) (k1) (by omega) (k2) (k4) (m4) (r2) (fun x hx9 => m2 x (r3 x hx9)) (r4) (fun x hx9 => m2 x (rw_mem.mp hx9).1) (fun e he => (hI.2.1 e he).1) (r7) (rw40 hI h hh2 _) (fun b _ => rw40 hI h hh2 b)) (cwV 1 hts (gV qw459 qw460 qw461 qw14 qw462) rfl rfl rfl (by decide +kernel) ⟨Nat.le_of_ble_eq_true rfl, Nat.le_of_ble_eq_true rfl⟩) (pvP (ci := 4) (r := (RX4, TX4, 6)) (q0 := 24) (wr := (clsW cI cZ ad cx2_78)) hP hD hK hT hZ hS (pm_1 _ _ _) rfl rfl) rfl rfl hl.1 rfl (lv_room (Nat.le_of_ble_eq_true rfl)) dL_act_83 ⟨Nat.le_of_ble_eq_true rfl, Nat.le_of_ble_eq_true rfl⟩) hS hP hD hA (pm_1 _ _ _) (fun _ => (pm_1 _ _ _).symm) (fun x_83 u_83 H locs hw_83 hP hD hS => ?_)
        obtain ⟨m2_83, L2_83, f2_83⟩ := u_83
        have hP : va_P D vwCl (((clsW cI cZ ad cx2_78) ++ [(t0, .inr (4, [.ref lw, .ref rk, .ref hs, .ref em, .int m2_83, .int qn]))]) ++ va_pl L2_83 f2_83) H := hP
        have hD : va_D A (((clsW cI cZ ad cx2_78) ++ [(t0, .inr (4, [.ref lw, .ref rk, .ref hs, .ref em, .int m2_83, .int qn]))]) ++ va_pl L2_83 f2_83) := hD
        have hw_83 : (x_83 = iI (↑(((mvR (ka (minL (aH Z) ((rwA Z) h (rkF (aL Z h) (aH Z) (aR Z h)))) (aH Z)) h (va_up (rwA Z) h (va_up ((rwA Z) h) (rkF (aL Z h) (aH Z) (aR Z h)) [])) ((rwA Z) h (rkF (aL Z h) (aH Z) (aR Z h)))) h 0).getD 0 0))) ∧ (SimP cI cJ cK (aN Z) (aH Z) (mvA 1 (aM Z) ((rwA Z) h (rkF (aL Z h) (aH Z) (aR Z h)))) (va_up (aK Z) (((mvR (ka (minL (aH Z) ((rwA Z) h (rkF (aL Z h) (aH Z) (aR Z h)))) (aH Z)) h (va_up (rwA Z) h (va_up ((rwA Z) h) (rkF (aL Z h) (aH Z) (aR Z h)) [])) ((rwA Z) h (rkF (aL Z h) (aH Z) (aR Z h)))) h 0).getD 0 0) 1) (va_up (aL Z) h (minL (aH Z) ((rwA Z) h (rkF (aL Z h) (aH Z) (aR Z h))))) (upd (aG Z) h ((aG Z) h + iI 1)) (va_up (mvR (ka (minL (aH Z) ((rwA Z) h (rkF (aL Z h) (aH Z) (aR Z h)))) (aH Z)) h (va_up (rwA Z) h (va_up ((rwA Z) h) (rkF (aL Z h) (aH Z) (aR Z h)) [])) ((rwA Z) h (rkF (aL Z h) (aH Z) (aR Z h)))) h (va_up ((mvR (ka (minL (aH Z) ((rwA Z) h (rkF (aL Z h) (aH Z) (aR Z h)))) (aH Z)) h (va_up (rwA Z) h (va_up ((rwA Z) h) (rkF (aL Z h) (aH Z) (aR Z h)) [])) ((rwA Z) h (rkF (aL Z h) (aH Z) (aR Z h)))) h) 0 (((mvR (ka (minL (aH Z) ((rwA Z) h (rkF (aL Z h) (aH Z) (aR Z h)))) (aH Z)) h (va_up (rwA Z) h (va_up ((rwA Z) h) (rkF (aL Z h) (aH Z) (aR Z h)) [])) ((rwA Z) h (rkF (aL Z h) (aH Z) (aR Z h)))) h 0).filter (fun y => decide (y ≠ (((mvR (ka (minL (aH Z) ((rwA Z) h (rkF (aL Z h) (aH Z) (aR Z h)))) (aH Z)) h (va_up (rwA Z) h (va_up ((rwA Z) h) (rkF (aL Z h) (aH Z) (aR Z h)) [])) ((rwA Z) h (rkF (aL Z h) (aH Z) (aR Z h)))) h 0).getD 0 0)))))) lw rk hs em L2_83 f2_83) ∧ (m2_83 = mt + iI ↑((rwA Z) h (rkF (aL Z h) (aH Z) (aR Z h))).length) := hw_83
        obtain ⟨v_83, w_83, m_83⟩ := hw_83
        have hv83 : x_83 = iI (↑((rkL (aL Z h) (aH Z) (aR Z h)).headD 0)) := v_83.trans (congrArg (fun z : Nat => iI ↑z) r1)
        obtain ⟨hSP3, ht3⟩ := SM_rakp hI hh2 hne q9 rfl rfl w_83
        refine lz_icmp_ne (tgt := 93) hx hb v_78 hv83 ⟨by omega, by omega⟩ dL_act_86 (by decide) (fun c_86 => ?_) (fun c_86 => ?_)
        · exfalso; omega
        · refine lz_iconst hx hb dL_act_89 (fun x_89 v_89 => ?_)
          refine lv_goto (tgt := 94) hx hb dL_act_90 (by decide) ?_
          have hP9 := hP
          have hD9 := hD
          refine W.widen (k := 176) (n := 6417) (by omega) (by omega) ?_
          exact W.zret (v := x_89) (ty := .boolean) hx hb hr (by rw [v_89]; decide) (fun t ht hW => ⟨⟨x_89, ⟨(rakA Z h), cx2_78, em, m2_83, qn, L2_83, f2_83⟩, rfl, ⟨v_89, c_78, AI_rak hI hh2 hne, PI_rak hI hPI hh2 hne, hSP3, m_83.trans ((congrArg (fun z => z + _) hmt).trans ht3), hqn, fun _ k hk => low_rak hI hh2 hne k⟩, ⟨by rw [ht]; exact hP9, hD9⟩⟩, hS.F ht⟩) hS.2.2 dL_act_94
    · refine lz_iconst hx hb dL_act_74 (fun x_74 v_74 => ?_)
      have hP9 := hP
      have hD9 := hD
      refine W.widen (k := 176) (n := 6417) (by omega) (by omega) ?_
      exact W.zret (v := x_74) (ty := .boolean) hx hb hr (by rw [v_74]; decide) (fun t ht hW => ⟨⟨x_74, ⟨Z, cx, em, mt, qn, L2_17, f2_17⟩, rfl, ⟨v_74, hC, hI, hPI, hSP2, hmt, hqn, fun _ k hk => Nat.le_refl _⟩, ⟨by rw [ht]; exact hP9, hD9⟩⟩, hS.F ht⟩) hS.2.2 dL_act_75
  · exfalso; omega
  · exfalso; omega
  · exfalso; omega
  · exfalso; omega
  · exfalso; omega
