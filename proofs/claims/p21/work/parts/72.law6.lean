set_option maxHeartbeats 4000000 in
set_option maxRecDepth 100000 in
theorem t_s0 {p : Program} {e : Env} {s : State} {m : MethodId} {args : Array Value} {below : List Frame} {meth : Method} {c : Code} {Q : State → Prop} {A : Nat → Prop} (l : Launch) (hl0 : l.stackTraces = false) (D : va_G) (cI cZ cJ cK : ClassId) (ad : Nat → Nat) (Z : va_AS) (cx : CX) (t1 : Nat) (tt : Int32) (lw : Nat) (rk : Nat) (hs : Nat) (em : Nat) (mt : Int32) (qn : Int32) (L : List Nat) (f : Nat → va_E) (t : Nat) {H : Heap} {locs : List Loc} {ls : Array Slot} {cells slots : Nat} (bs LS : Nat) (xs : Nat → Int32) (hX : va_X bs LS xs s s.heap) (hbl : bs < s.heap.size) (hbA : ¬ A bs) (hL : LS ≤ 260) (hx : p.tables.exec = Jvm.exec) (hb : c.code = cL_law) (hml : c.maxLocals = 22) (hown : s.vm.findClass RL = some m.cls) (hts : ∀ w ∈ lw_G, w.before args s = true) (hT : TW s) (hZ : ZW A s s.heap) (hK : va_K D vwCl (KT cI cZ cJ cK) s) (hA : ∀ q : Nat, s.heap.size ≤ q → A q) (hC : CStx Z cx) (hI : AI Z) (hPI : PI Z) (hSP : SMA cI cJ cK Z lw rk hs em L f) (hmt : mt = aT Z) (hqn : qn = aQ Z) (htt : tt = iI ↑t) (htl : t < 1000) (hP : va_P D vwCl ((clsW cI cZ ad cx) ++ ([(t1, .inr (4, [.ref lw, .ref rk, .ref hs, .ref em, .int mt, .int qn]))] ++ va_pl L f)) H) (hD : va_D A ((clsW cI cZ ad cx) ++ ([(t1, .inr (4, [.ref lw, .ref rk, .ref hs, .ref em, .int mt, .int qn]))] ++ va_pl L f))) (hS : va_S A s.heap H locs) (hl : lv_has ls 22 [(0, .ref bs), (1, .ref (ad 0)), (2, .ref t1), (3, .int tt)]) (hcc : cells + 178 ≤ 600130) (hss : slots + 6459 ≤ 7301080) (kk : ∀ (Z9 : va_AS) (cx9 : CX) (em9 : Nat) (mt9 : Int32) (qn9 : Int32) (L9 : List Nat) (f9 : Nat → va_E) (ql : Nat) (qs : Nat) (gl : Nat → Int32) (pp : Int32) (xx : Int32) (nn : Int32) (l0 : Int32) (a0 : Int32) (pv : Int) (H : Heap) (locs : List Loc) (ls : Array Slot), (CStx Z9 cx9) → (AI Z9) → (PI Z9) → (SMA cI cJ cK Z9 lw rk hs em9 L9 f9) → (mt9 = aT Z9) → (qn9 = aQ Z9) → (∀ k, k < 2 → gl k = iI ↑(aL Z k)) → (pp = iI (pv)) → (0 ≤ pv ∧ pv ≤ 1) → (pv = 0 → ∀ k, k < 2 → aL Z k ≤ aL Z9 k) → (nn = iI ↑(aN Z9)) → (l0 = iI (0)) → (a0 = iI (0)) → va_P D vwCl ([(ql, .inl (cI, 2, .inl gl)), (qs, .inl (cI, (aN Z9), .inl (fun _ => 0)))] ++ ((clsW cI cZ ad cx9) ++ ([(t1, .inr (4, [.ref lw, .ref rk, .ref hs, .ref em9, .int mt9, .int qn9]))] ++ va_pl L9 f9))) H → va_D A ([(ql, .inl (cI, 2, .inl gl)), (qs, .inl (cI, (aN Z9), .inl (fun _ => 0)))] ++ ((clsW cI cZ ad cx9) ++ ([(t1, .inr (4, [.ref lw, .ref rk, .ref hs, .ref em9, .int mt9, .int qn9]))] ++ va_pl L9 f9))) → va_S A s.heap H locs → lv_has ls 22 [(0, .ref bs), (1, .ref (ad 0)), (2, .ref t1), (3, .int tt), (4, .int xx), (5, .ref ql), (6, .int pp), (7, .int nn), (8, .ref qs), (9, .int l0), (10, .int a0)] → W p l e room_1 s m args below meth c H locs (cells + 178) (slots + 6459) Q (F0 m 122 ls [])) : W p l e room_1 s m args below meth c H locs cells slots Q (F0 m 28 ls []) := by
  have m40 := hI.1
  refine lv_aload_n hx hb dL_law_28 rfl (lv_at hl 0 rfl) ?_
  refine lv_iload_n hx hb dL_law_29 rfl (lv_at hl 3 rfl) ?_
  refine lz_bipush hx hb (by decide) dL_law_30 (fun x_30 v_30 => ?_)
  refine lv_irem hx hb dL_law_32 (by rw [v_30]; decide) ?_
  refine lv_topi (fun x_32 e_32 => ?_)
  have v_32 : x_32 = iI (↑(t % 16)) := by rw [e_32, htt, v_30]; exact rem_I (d := 16) (by omega) (by decide) (by decide)
  refine cr_i (va_runS (As := [.ref bs, .int x_32]) (rest := []) ⟨hx, hb, hml, hown, hts⟩ (k_L_cell l D cI cZ cJ cK _ bs x_32 LS xs (t % 16) (v_32.trans (congrArg iI (by omega))) (by omega) hL) (va_cwS 2 hts (gS qw517 qw518 qw9 qw519) rfl rfl rfl (by decide +kernel) ⟨Nat.le_of_ble_eq_true rfl, Nat.le_of_ble_eq_true rfl⟩) (psX (wr := ((clsW cI cZ ad cx) ++ ([(t1, .inr (4, [.ref lw, .ref rk, .ref hs, .ref em, .int mt, .int qn]))] ++ va_pl L f))) hP hD hK hT hZ hS hX hbl hbA (pm_n _)) rfl rfl hl.1 rfl (lv_room (Nat.le_of_ble_eq_true rfl)) dL_law_33 ⟨(by show cells ≤ 600130; omega), (by show slots ≤ 7301080; omega)⟩) hS hP (fun x_33 H locs hw_33 hP hS => ?_)
  refine lv_iload_n hx hb dL_law_36 rfl (lv_at hl 3 rfl) ?_
  refine lz_bipush hx hb (by decide) dL_law_37 (fun x_37 v_37 => ?_)
  refine lv_idiv hx hb dL_law_39 (by rw [v_37]; decide) ?_
  refine lv_topi (fun x_39 e_39 => ?_)
  refine lz_iconst hx hb dL_law_40 (fun x_40 v_40 => ?_)
  refine lv_imul hx hb dL_law_41 ?_
  refine lv_topi (fun x_41 e_41 => ?_)
  refine lv_ishr hx hb dL_law_42 ?_
  refine lv_topi (fun x_42 e_42 => ?_)
  refine lz_bipush hx hb (by decide) dL_law_43 (fun x_43 v_43 => ?_)
  refine lv_iload_n hx hb dL_law_45 rfl (lv_at hl 3 rfl) ?_
  refine lv_imul hx hb dL_law_46 ?_
  refine lv_topi (fun x_46 e_46 => ?_)
  refine lv_iadd hx hb dL_law_47 ?_
  refine lv_topi (fun x_47 e_47 => ?_)
  refine lv_istore (lv' := [(4, .int x_47), (0, .ref bs), (1, .ref (ad 0)), (2, .ref t1), (3, .int tt)]) hx hb dL_law_48 hl (by decide) rfl (fun ls hl => ?_)
  refine lz_iconst hx hb dL_law_50 (fun x_50 v_50 => ?_)
  refine va_newa (atype := .int) (ty := .int) (a0 := (2, .inl (fun _ => 0))) (N' := 2) hx hb (hts _ qw53) rfl hK hP hD hS hA (fun _ => rfl) (by rw [v_50]; exact iI_ne 2 (by omega) (by decide)) (by rw [v_50]; exact iI_cl 2 (by omega) (by decide)) (by show 2 * 4 ≤ 536870912; omega) (by show cells + 1 ≤ 600130; omega) (by show slots + 2 ≤ 7301080; omega) dL_law_51 (fun n_51 cN_51 H hK2 hP hD hS => ?_)
  have hk9 := (kt_one hK2 0 rfl (by intro C h; cases h)).symm
  subst hk9
  have hP : va_P D vwCl ([(n_51, .inl (cI, 2, .inl (fun _ => 0)))] ++ ((clsW cI cZ ad cx) ++ ([(t1, .inr (4, [.ref lw, .ref rk, .ref hs, .ref em, .int mt, .int qn]))] ++ va_pl L f))) H := pm_P hP List.perm_append_comm
  have hD : va_D A ([(n_51, .inl (cI, 2, .inl (fun _ => 0)))] ++ ((clsW cI cZ ad cx) ++ ([(t1, .inr (4, [.ref lw, .ref rk, .ref hs, .ref em, .int mt, .int qn]))] ++ va_pl L f))) := pm_D hD List.perm_append_comm
  refine lv_dup hx hb dL_law_53 rfl ?_
  refine lz_iconst hx hb dL_law_54 (fun x_54 v_54 => ?_)
  refine lv_aload_n hx hb dL_law_55 rfl (lv_at hl 2 rfl) ?_
  refine lz_iconst hx hb dL_law_56 (fun x_56 v_56 => ?_)
  refine lz_iconst hx hb dL_law_57 (fun x_57 v_57 => ?_)
  refine cr_i (va_runV (As := [.int x_56, .int x_57]) (rest := [.int x_54, .ref n_51, .ref n_51]) ⟨hx, hb, hml, hown, hts⟩ (k_X3_about_P l D cI cZ cJ cK _ x_56 x_57 ad Z cx 0 1 hC hI (v_56.trans (congrArg iI (by omega))) (by omega) (v_57.trans (congrArg iI (by omega))) (by omega)) (cwV 2 hts (gV qw344 qw345 qw346 qw10 qw347) rfl rfl rfl (by decide +kernel) ⟨Nat.le_of_ble_eq_true rfl, Nat.le_of_ble_eq_true rfl⟩) (pvP (ci := 3) (r := (RX3, TX3, 5)) (q0 := 1) (wr := ([(n_51, .inl (cI, 2, .inl (fun _ => 0)))] ++ ([(t1, .inr (4, [.ref lw, .ref rk, .ref hs, .ref em, .int mt, .int qn]))] ++ va_pl L f))) hP hD hK hT hZ hS (pm_3 _ _ _) rfl rfl) rfl rfl hl.1 rfl (lv_room (Nat.le_of_ble_eq_true rfl)) dL_law_58 ⟨(by show (cells + 1) ≤ 600130; omega), (by show (slots + 2) ≤ 7301080; omega)⟩) hS hP (fun x_58 H locs hw_58 hP hS => ?_)
  replace hw_58 : (x_58 = abV (aL Z 0) (aH Z) (aR Z 0) (aG Z 0) 1) := hw_58
  have v_58 := hw_58
  have hv58 : x_58 = iI (↑(aL Z 0)) := v_58.trans (abV_n.2.1 rfl)
  refine lz_iast hx hb hK hP hD hS 0 0 rfl rfl v_54 (0) (by omega) (by omega) (by decide) (ws2 := fun z => ([(n_51, .inl (cI, 2, .inl z))] ++ ((clsW cI cZ ad cx) ++ ([(t1, .inr (4, [.ref lw, .ref rk, .ref hs, .ref em, .int mt, .int qn]))] ++ va_pl L f)))) (fun _ => rfl) dL_law_61 (fun f_61 H locs e_61 hP hD hS => ?_)
  have hP : va_P D vwCl ([(n_51, .inl (cI, 2, .inl f_61))] ++ ((clsW cI cZ ad cx) ++ ([(t1, .inr (4, [.ref lw, .ref rk, .ref hs, .ref em, .int mt, .int qn]))] ++ va_pl L f))) H := hP
  have hD : va_D A ([(n_51, .inl (cI, 2, .inl f_61))] ++ ((clsW cI cZ ad cx) ++ ([(t1, .inr (4, [.ref lw, .ref rk, .ref hs, .ref em, .int mt, .int qn]))] ++ va_pl L f))) := hD
  refine lv_dup hx hb dL_law_62 rfl ?_
  refine lz_iconst hx hb dL_law_63 (fun x_63 v_63 => ?_)
  refine lv_aload_n hx hb dL_law_64 rfl (lv_at hl 2 rfl) ?_
  refine lz_iconst hx hb dL_law_65 (fun x_65 v_65 => ?_)
  refine lz_iconst hx hb dL_law_66 (fun x_66 v_66 => ?_)
  refine cr_i (va_runV (As := [.int x_65, .int x_66]) (rest := [.int x_63, .ref n_51, .ref n_51]) ⟨hx, hb, hml, hown, hts⟩ (k_X3_about_P l D cI cZ cJ cK _ x_65 x_66 ad Z cx 1 1 hC hI (v_65.trans (congrArg iI (by omega))) (by omega) (v_66.trans (congrArg iI (by omega))) (by omega)) (cwV 2 hts (gV qw344 qw345 qw346 qw10 qw347) rfl rfl rfl (by decide +kernel) ⟨Nat.le_of_ble_eq_true rfl, Nat.le_of_ble_eq_true rfl⟩) (pvP (ci := 3) (r := (RX3, TX3, 5)) (q0 := 1) (wr := ([(n_51, .inl (cI, 2, .inl f_61))] ++ ([(t1, .inr (4, [.ref lw, .ref rk, .ref hs, .ref em, .int mt, .int qn]))] ++ va_pl L f))) hP hD hK hT hZ hS (pm_3 _ _ _) rfl rfl) rfl rfl hl.1 rfl (lv_room (Nat.le_of_ble_eq_true rfl)) dL_law_67 ⟨(by show (cells + 1) ≤ 600130; omega), (by show (slots + 2) ≤ 7301080; omega)⟩) hS hP (fun x_67 H locs hw_67 hP hS => ?_)
  replace hw_67 : (x_67 = abV (aL Z 1) (aH Z) (aR Z 1) (aG Z 1) 1) := hw_67
  have v_67 := hw_67
  have hv67 : x_67 = iI (↑(aL Z 1)) := v_67.trans (abV_n.2.1 rfl)
  refine lz_iast hx hb hK hP hD hS 0 0 rfl rfl v_63 (1) (by omega) (by omega) (by decide) (ws2 := fun z => ([(n_51, .inl (cI, 2, .inl z))] ++ ((clsW cI cZ ad cx) ++ ([(t1, .inr (4, [.ref lw, .ref rk, .ref hs, .ref em, .int mt, .int qn]))] ++ va_pl L f)))) (fun _ => rfl) dL_law_70 (fun f_70 H locs e_70 hP hD hS => ?_)
  have hP : va_P D vwCl ([(n_51, .inl (cI, 2, .inl f_70))] ++ ((clsW cI cZ ad cx) ++ ([(t1, .inr (4, [.ref lw, .ref rk, .ref hs, .ref em, .int mt, .int qn]))] ++ va_pl L f))) H := hP
  have hD : va_D A ([(n_51, .inl (cI, 2, .inl f_70))] ++ ((clsW cI cZ ad cx) ++ ([(t1, .inr (4, [.ref lw, .ref rk, .ref hs, .ref em, .int mt, .int qn]))] ++ va_pl L f))) := hD
  refine lv_astore (lv' := [(5, .ref n_51), (4, .int x_47), (0, .ref bs), (1, .ref (ad 0)), (2, .ref t1), (3, .int tt)]) hx hb dL_law_71 hl (by decide) rfl (fun ls hl => ?_)
  refine lv_aload_n hx hb dL_law_73 rfl (lv_at hl 3 rfl) ?_
  refine lv_aload_n hx hb dL_law_74 rfl (lv_at hl 4 rfl) ?_
  refine lv_iload hx hb dL_law_75 (lv_at hl 1 rfl) ?_
  refine cp_i (wr := [(n_51, .inl (cI, 2, .inl f_70))]) (ws2 := fun u9 => ([(n_51, .inl (cI, 2, .inl f_70))] ++ ((clsW cI cZ ad u9.2.1) ++ ([(t1, .inr (4, [.ref lw, .ref rk, .ref hs, .ref u9.2.2.1, .int u9.2.2.2.1, .int u9.2.2.2.2.1]))] ++ va_pl u9.2.2.2.2.2.1 u9.2.2.2.2.2.2)))) (vx_runSW (As := [.ref (ad 0), .ref t1, .int x_47]) (rest := []) ⟨hx, hb, hml, hown, hts⟩ (k_L_act l hl0 D cI cZ cJ cK _ t1 x_47 lw rk hs em mt qn L f ad Z cx hC hI hPI hSP hmt hqn) (vx_cwSW 3 hts (gSW qw521 qw522 qw9 qw523) rfl rfl rfl (by decide +kernel) ⟨Nat.le_of_ble_eq_true rfl, Nat.le_of_ble_eq_true rfl⟩) (psP (wr := [(n_51, .inl (cI, 2, .inl f_70))]) hP hD hK hT hZ hS (pm_4 _ _ _ _)) rfl rfl hl.1 rfl (lv_room (Nat.le_of_ble_eq_true rfl)) dL_law_77 ⟨(by show ((cells + 1) + 176) ≤ 600130; omega), (by show ((slots + 2) + 6417) ≤ 7301080; omega)⟩) hS hP hD hA (pm_4 _ _ _ _) (fun _ => (pm_4 _ _ _ _).symm) (fun x_77 u_77 H locs hw_77 hP hD hS => ?_)
  obtain ⟨Z2_77, cx2_77, em2_77, mt2_77, qn2_77, L2_77, f2_77⟩ := u_77
  have hP : va_P D vwCl ([(n_51, .inl (cI, 2, .inl f_70))] ++ ((clsW cI cZ ad cx2_77) ++ ([(t1, .inr (4, [.ref lw, .ref rk, .ref hs, .ref em2_77, .int mt2_77, .int qn2_77]))] ++ va_pl L2_77 f2_77))) H := hP
  have hD : va_D A ([(n_51, .inl (cI, 2, .inl f_70))] ++ ((clsW cI cZ ad cx2_77) ++ ([(t1, .inr (4, [.ref lw, .ref rk, .ref hs, .ref em2_77, .int mt2_77, .int qn2_77]))] ++ va_pl L2_77 f2_77))) := hD
  replace hw_77 : (x_77 = iI (1)) ∧ (CStx Z2_77 cx2_77) ∧ (AI Z2_77) ∧ (PI Z2_77) ∧ (SMA cI cJ cK Z2_77 lw rk hs em2_77 L2_77 f2_77) ∧ (mt2_77 = aT Z2_77) ∧ (qn2_77 = aQ Z2_77) ∧ (bel x_47 14 ≠ 5 → ∀ k, k < 2 → aL Z k ≤ aL Z2_77 k) := hw_77
  obtain ⟨v_77, c_77, ai_77, pi_77, w_77, m_77, q_77, lo_77⟩ := hw_77
  have m42 := ai_77.1
  refine lz_if_ne (tgt := 85) hx hb v_77 (by omega) dL_law_80 (by decide) (fun c_80 => ?_) (fun c_80 => ?_)
  · refine lv_iload hx hb dL_law_85 (lv_at hl 1 rfl) ?_
    refine lz_bipush hx hb (by decide) dL_law_87 (fun x_87 v_87 => ?_)
    refine cr_i (va_runS (As := [.int x_47, .int x_87]) (rest := []) ⟨hx, hb, hml, hown, hts⟩ (k_L_below l D cI cZ cJ cK _ x_47 x_87 14 (v_87.trans (congrArg iI (by omega))) (by omega) (by omega)) (va_cwS 2 hts (gS qw513 qw514 qw9 qw515) rfl rfl rfl (by decide +kernel) ⟨Nat.le_of_ble_eq_true rfl, Nat.le_of_ble_eq_true rfl⟩) (ps hP hD hK hT hZ hS [] rfl rfl) rfl rfl hl.1 rfl (lv_room (Nat.le_of_ble_eq_true rfl)) dL_law_89 ⟨(by show ((cells + 1) + 176) ≤ 600130; omega), (by show ((slots + 2) + 6417) ≤ 7301080; omega)⟩) hS hP (fun x_89 H locs hw_89 hP hS => ?_)
    replace hw_89 : (x_89 = iI (↑(bel x_47 14))) := hw_89
    have v_89 := hw_89
    have hb14 := bel_lt x_47 (show 0 < 14 by decide)
    refine lz_iconst hx hb dL_law_92 (fun x_92 v_92 => ?_)
    refine lz_icmp_ne (tgt := 100) hx hb v_89 v_92 ⟨by omega, by omega⟩ dL_law_93 (by decide) (fun c_93 => ?_) (fun c_93 => ?_)
    · refine lz_iconst hx hb dL_law_100 (fun x_100 v_100 => ?_)
      refine lv_istore (lv' := [(6, .int x_100), (5, .ref n_51), (4, .int x_47), (0, .ref bs), (1, .ref (ad 0)), (2, .ref t1), (3, .int tt)]) hx hb dL_law_101 hl (by decide) rfl (fun ls hl => ?_)
      refine lv_aload_n hx hb dL_law_103 rfl (lv_at hl 4 rfl) ?_
      refine lz_iconst hx hb dL_law_104 (fun x_104 v_104 => ?_)
      refine cr_i (va_runV (As := [.int x_104]) (rest := []) ⟨hx, hb, hml, hown, hts⟩ (k_X3_count_P l D cI cZ cJ cK _ x_104 ad Z2_77 cx2_77 0 (c_77) (ai_77) (v_104.trans (congrArg iI (by omega))) (by omega)) (cwV 1 hts (gV qw397 qw398 qw399 qw10 qw400) rfl rfl rfl (by decide +kernel) ⟨Nat.le_of_ble_eq_true rfl, Nat.le_of_ble_eq_true rfl⟩) (pvP (ci := 3) (r := (RX3, TX3, 5)) (q0 := 1) (wr := ([(n_51, .inl (cI, 2, .inl f_70))] ++ ([(t1, .inr (4, [.ref lw, .ref rk, .ref hs, .ref em2_77, .int mt2_77, .int qn2_77]))] ++ va_pl L2_77 f2_77))) hP hD hK hT hZ hS (pm_3 _ _ _) rfl rfl) rfl rfl hl.1 rfl (lv_room (Nat.le_of_ble_eq_true rfl)) dL_law_105 ⟨(by show ((cells + 1) + 176) ≤ 600130; omega), (by show ((slots + 2) + 6417) ≤ 7301080; omega)⟩) hS hP (fun x_105 H locs hw_105 hP hS => ?_)
      replace hw_105 : (x_105 = coV (aN Z2_77) ((aR Z2_77 0).length + (aR Z2_77 1).length) (aT Z2_77) (aG Z2_77 0 + aG Z2_77 1) (aQ Z2_77) 0) := hw_105
      have v_105 := hw_105
      have hv105 : x_105 = iI (↑(aN Z2_77)) := v_105.trans (coV_n.1 rfl)
      refine lv_istore (lv' := [(7, .int x_105), (6, .int x_100), (5, .ref n_51), (4, .int x_47), (0, .ref bs), (1, .ref (ad 0)), (2, .ref t1), (3, .int tt)]) hx hb dL_law_108 hl (by decide) rfl (fun ls hl => ?_)
      refine lv_iload hx hb dL_law_110 (lv_at hl 0 rfl) ?_
      refine va_newa (atype := .int) (ty := .int) (a0 := ((aN Z2_77), .inl (fun _ => 0))) (N' := (aN Z2_77)) hx hb (hts _ qw53) rfl hK hP hD hS hA (fun _ => rfl) (by rw [hv105]; exact iI_ne (aN Z2_77) (by omega) (by omega)) (by rw [hv105]; exact iI_cl (aN Z2_77) (by omega) (by omega)) (by show (aN Z2_77) * 4 ≤ 536870912; omega) (by show ((cells + 1) + 176) + 1 ≤ 600130; omega) (by show ((slots + 2) + 6417) + (aN Z2_77) ≤ 7301080; omega) dL_law_112 (fun n_112 cN_112 H hK2 hP hD hS => ?_)
      have hk9 := (kt_one hK2 0 rfl (by intro C h; cases h)).symm
      subst hk9
      have hP : va_P D vwCl ([(n_51, .inl (cI, 2, .inl f_70)), (n_112, .inl (cI, (aN Z2_77), .inl (fun _ => 0)))] ++ ((clsW cI cZ ad cx2_77) ++ ([(t1, .inr (4, [.ref lw, .ref rk, .ref hs, .ref em2_77, .int mt2_77, .int qn2_77]))] ++ va_pl L2_77 f2_77))) H := pm_P hP (pm_7 _ _ _)
      have hD : va_D A ([(n_51, .inl (cI, 2, .inl f_70)), (n_112, .inl (cI, (aN Z2_77), .inl (fun _ => 0)))] ++ ((clsW cI cZ ad cx2_77) ++ ([(t1, .inr (4, [.ref lw, .ref rk, .ref hs, .ref em2_77, .int mt2_77, .int qn2_77]))] ++ va_pl L2_77 f2_77))) := pm_D hD (pm_7 _ _ _)
      refine lv_astore (lv' := [(8, .ref n_112), (7, .int x_105), (6, .int x_100), (5, .ref n_51), (4, .int x_47), (0, .ref bs), (1, .ref (ad 0)), (2, .ref t1), (3, .int tt)]) hx hb dL_law_114 hl (by decide) rfl (fun ls hl => ?_)
      refine lz_iconst hx hb dL_law_116 (fun x_116 v_116 => ?_)
      refine lv_istore (lv' := [(9, .int x_116), (8, .ref n_112), (7, .int x_105), (6, .int x_100), (5, .ref n_51), (4, .int x_47), (0, .ref bs), (1, .ref (ad 0)), (2, .ref t1), (3, .int tt)]) hx hb dL_law_117 hl (by decide) rfl (fun ls hl => ?_)
      refine lz_iconst hx hb dL_law_119 (fun x_119 v_119 => ?_)
      refine lv_istore (lv' := [(10, .int x_119), (9, .int x_116), (8, .ref n_112), (7, .int x_105), (6, .int x_100), (5, .ref n_51), (4, .int x_47), (0, .ref bs), (1, .ref (ad 0)), (2, .ref t1), (3, .int tt)]) hx hb dL_law_120 hl (by decide) rfl (fun ls hl => ?_)
      refine W.widen (k := cells + 178) (n := slots + 6459) (by omega) (by omega) ?_
      exact kk Z2_77 cx2_77 em2_77 mt2_77 qn2_77 L2_77 f2_77 n_51 n_112 f_70 x_100 x_47 x_105 x_116 x_119 0 _ _ _ (c_77) (ai_77) (pi_77) (w_77) (m_77) (q_77) (fun k hk => by rcases (show k = 0 ∨ k = 1 by omega) with rfl | rfl; (rw [e_70, upd_n _ _ (by omega), e_61, upd_s]; exact hv58); (rw [e_70, upd_s]; exact hv67)) (v_100) (⟨by decide, by decide⟩) (fun _ => lo_77 (by omega)) (hv105) (v_116) (v_119) hP hD hS (lv_sub hl [7, 8, 9, 10, 6, 5, 4, 3, 2, 1, 0] rfl)
    · refine lz_iconst hx hb dL_law_96 (fun x_96 v_96 => ?_)
      refine lv_goto (tgt := 101) hx hb dL_law_97 (by decide) ?_
      refine lv_istore (lv' := [(6, .int x_96), (5, .ref n_51), (4, .int x_47), (0, .ref bs), (1, .ref (ad 0)), (2, .ref t1), (3, .int tt)]) hx hb dL_law_101 hl (by decide) rfl (fun ls hl => ?_)
      refine lv_aload_n hx hb dL_law_103 rfl (lv_at hl 4 rfl) ?_
      refine lz_iconst hx hb dL_law_104 (fun x_104 v_104 => ?_)
      refine cr_i (va_runV (As := [.int x_104]) (rest := []) ⟨hx, hb, hml, hown, hts⟩ (k_X3_count_P l D cI cZ cJ cK _ x_104 ad Z2_77 cx2_77 0 (c_77) (ai_77) (v_104.trans (congrArg iI (by omega))) (by omega)) (cwV 1 hts (gV qw397 qw398 qw399 qw10 qw400) rfl rfl rfl (by decide +kernel) ⟨Nat.le_of_ble_eq_true rfl, Nat.le_of_ble_eq_true rfl⟩) (pvP (ci := 3) (r := (RX3, TX3, 5)) (q0 := 1) (wr := ([(n_51, .inl (cI, 2, .inl f_70))] ++ ([(t1, .inr (4, [.ref lw, .ref rk, .ref hs, .ref em2_77, .int mt2_77, .int qn2_77]))] ++ va_pl L2_77 f2_77))) hP hD hK hT hZ hS (pm_3 _ _ _) rfl rfl) rfl rfl hl.1 rfl (lv_room (Nat.le_of_ble_eq_true rfl)) dL_law_105 ⟨(by show ((cells + 1) + 176) ≤ 600130; omega), (by show ((slots + 2) + 6417) ≤ 7301080; omega)⟩) hS hP (fun x_105 H locs hw_105 hP hS => ?_)
      replace hw_105 : (x_105 = coV (aN Z2_77) ((aR Z2_77 0).length + (aR Z2_77 1).length) (aT Z2_77) (aG Z2_77 0 + aG Z2_77 1) (aQ Z2_77) 0) := hw_105
      have v_105 := hw_105
      have hv105 : x_105 = iI (↑(aN Z2_77)) := v_105.trans (coV_n.1 rfl)
      refine lv_istore (lv' := [(7, .int x_105), (6, .int x_96), (5, .ref n_51), (4, .int x_47), (0, .ref bs), (1, .ref (ad 0)), (2, .ref t1), (3, .int tt)]) hx hb dL_law_108 hl (by decide) rfl (fun ls hl => ?_)
      refine lv_iload hx hb dL_law_110 (lv_at hl 0 rfl) ?_
      refine va_newa (atype := .int) (ty := .int) (a0 := ((aN Z2_77), .inl (fun _ => 0))) (N' := (aN Z2_77)) hx hb (hts _ qw53) rfl hK hP hD hS hA (fun _ => rfl) (by rw [hv105]; exact iI_ne (aN Z2_77) (by omega) (by omega)) (by rw [hv105]; exact iI_cl (aN Z2_77) (by omega) (by omega)) (by show (aN Z2_77) * 4 ≤ 536870912; omega) (by show ((cells + 1) + 176) + 1 ≤ 600130; omega) (by show ((slots + 2) + 6417) + (aN Z2_77) ≤ 7301080; omega) dL_law_112 (fun n_112 cN_112 H hK2 hP hD hS => ?_)
      have hk9 := (kt_one hK2 0 rfl (by intro C h; cases h)).symm
      subst hk9
      have hP : va_P D vwCl ([(n_51, .inl (cI, 2, .inl f_70)), (n_112, .inl (cI, (aN Z2_77), .inl (fun _ => 0)))] ++ ((clsW cI cZ ad cx2_77) ++ ([(t1, .inr (4, [.ref lw, .ref rk, .ref hs, .ref em2_77, .int mt2_77, .int qn2_77]))] ++ va_pl L2_77 f2_77))) H := pm_P hP (pm_7 _ _ _)
      have hD : va_D A ([(n_51, .inl (cI, 2, .inl f_70)), (n_112, .inl (cI, (aN Z2_77), .inl (fun _ => 0)))] ++ ((clsW cI cZ ad cx2_77) ++ ([(t1, .inr (4, [.ref lw, .ref rk, .ref hs, .ref em2_77, .int mt2_77, .int qn2_77]))] ++ va_pl L2_77 f2_77))) := pm_D hD (pm_7 _ _ _)
      refine lv_astore (lv' := [(8, .ref n_112), (7, .int x_105), (6, .int x_96), (5, .ref n_51), (4, .int x_47), (0, .ref bs), (1, .ref (ad 0)), (2, .ref t1), (3, .int tt)]) hx hb dL_law_114 hl (by decide) rfl (fun ls hl => ?_)
      refine lz_iconst hx hb dL_law_116 (fun x_116 v_116 => ?_)
      refine lv_istore (lv' := [(9, .int x_116), (8, .ref n_112), (7, .int x_105), (6, .int x_96), (5, .ref n_51), (4, .int x_47), (0, .ref bs), (1, .ref (ad 0)), (2, .ref t1), (3, .int tt)]) hx hb dL_law_117 hl (by decide) rfl (fun ls hl => ?_)
      refine lz_iconst hx hb dL_law_119 (fun x_119 v_119 => ?_)
      refine lv_istore (lv' := [(10, .int x_119), (9, .int x_116), (8, .ref n_112), (7, .int x_105), (6, .int x_96), (5, .ref n_51), (4, .int x_47), (0, .ref bs), (1, .ref (ad 0)), (2, .ref t1), (3, .int tt)]) hx hb dL_law_120 hl (by decide) rfl (fun ls hl => ?_)
      refine W.widen (k := cells + 178) (n := slots + 6459) (by omega) (by omega) ?_
      exact kk Z2_77 cx2_77 em2_77 mt2_77 qn2_77 L2_77 f2_77 n_51 n_112 f_70 x_96 x_47 x_105 x_116 x_119 1 _ _ _ (c_77) (ai_77) (pi_77) (w_77) (m_77) (q_77) (fun k hk => by rcases (show k = 0 ∨ k = 1 by omega) with rfl | rfl; (rw [e_70, upd_n _ _ (by omega), e_61, upd_s]; exact hv58); (rw [e_70, upd_s]; exact hv67)) (v_96) (⟨by decide, by decide⟩) (fun z => by omega) (hv105) (v_116) (v_119) hP hD hS (lv_sub hl [7, 8, 9, 10, 6, 5, 4, 3, 2, 1, 0] rfl)
  · exfalso; omega
