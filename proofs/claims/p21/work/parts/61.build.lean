/-! the first state; the script's cells -/
def va_A0 : va_AS := (0, fun _ => 0, fun _ => 0, fun _ => 0, fun _ => [], fun _ => 0, fun _ => 0, fun _ => 0, 0, 0)
theorem AI_0 : AI va_A0 := by
  refine ⟨Nat.zero_le _, fun i hi => absurd hi (Nat.not_lt_zero i), fun h _ => ⟨fun x => ⟨fun q => absurd q List.not_mem_nil, fun q => absurd q.1 (Nat.not_lt_zero x)⟩, ⟨List.Pairwise.nil, List.Pairwise.nil, fun x q => absurd q List.not_mem_nil⟩, show (0 : Nat) < 1024 by decide⟩, fun i _ => Or.inl rfl, fun i _ _ => rfl⟩
theorem PI_0 : PI va_A0 := ⟨fun i _ => rfl, rfl, by decide, 0, by decide, by decide⟩
theorem rem_I {a d : Nat} (ha : a < 2147483648) (h0 : 0 < d) (hd : d < 2147483648) : iI ↑a - iI ↑a / iI ↑d * iI ↑d = iI ↑(a % d) := by
  rw [← nI_i, ← nI_i, pk_rem ha h0 hd, nI_i]
set_option maxHeartbeats 4000000 in
set_option maxRecDepth 100000 in
theorem k_L_build (l : Launch) (D : va_G) (cI cZ cJ cK : ClassId) (hz9 : Nat) (bs : Nat) (ad : Nat → Nat) (cx : CX) (L : Nat) (xs : Nat → Int32) (hl0 : l.stackTraces = false) (hC0 : CStx va_A0 cx) (hL : L ≤ 260) (hbn : ∀ (k : Nat) (e : va_E), (clsW cI cZ ad cx)[k]? = some (bs, e) → False) : Met l yL_build (ws_ yL_build cL_build 4 (Option.some (.object "RadixHearthLaw$Sim"))) ({ frames := 9, cells := 6013, slots := 218212, locals := 173 }) (va_Pc [.ref (ad 0), .ref bs] (wPreX bs L xs D cI cZ cJ cK hz9 (clsW cI cZ ad cx))) (va_Qr (fun (u : va_AS × CX × Nat × Nat × Nat × Nat × Nat × Int32 × Int32 × List Nat × (Nat → va_E)) => True) (fun (u : va_AS × CX × Nat × Nat × Nat × Nat × Nat × Int32 × Int32 × List Nat × (Nat → va_E)) r t => ((r = u.2.2.1) ∧ (CStx u.1 u.2.1) ∧ (AI u.1) ∧ (PI u.1) ∧ (SMA cI cJ cK u.1 u.2.2.2.1 u.2.2.2.2.1 u.2.2.2.2.2.1 u.2.2.2.2.2.2.1 u.2.2.2.2.2.2.2.2.2.1 u.2.2.2.2.2.2.2.2.2.2) ∧ (u.2.2.2.2.2.2.2.1 = aT u.1) ∧ (u.2.2.2.2.2.2.2.2.1 = aQ u.1)) ∧ wPost D (va_A (clsW cI cZ ad cx) hz9) (((clsW cI cZ ad u.2.1) ++ [(u.2.2.1, .inr (4, [.ref u.2.2.2.1, .ref u.2.2.2.2.1, .ref u.2.2.2.2.2.1, .ref u.2.2.2.2.2.2.1, .int u.2.2.2.2.2.2.2.1, .int u.2.2.2.2.2.2.2.2.1]))]) ++ va_pl u.2.2.2.2.2.2.2.2.2.1 u.2.2.2.2.2.2.2.2.2.2) t) (va_A (clsW cI cZ ad cx) hz9)) 6013 218212 (va_A (clsW cI cZ ad cx) hz9) := by
  refine Met.ofW (cc := cL_build) (maxL := 4) (ret := (Option.some (.object "RadixHearthLaw$Sim"))) (by decide) rfl ?_
  intro p e s m args below meth c s₁ hBd hml hv
  obtain ⟨rfl, ⟨hsz, hP, hD, hK, hT, hZ⟩, hX⟩ := hv
  have hx := hBd.exec
  have hb := hBd.bytes
  have hr := hBd.returns
  have hts : ∀ w ∈ lw_G, w.before _ s = true := fun w h => atoms_spec (ws := (ws_ yL_build cL_build 4 (Option.some (.object "RadixHearthLaw$Sim")))) hBd.pre w (List.mem_cons_of_mem _ h)
  have hown : s.vm.findClass RL = some m.cls := findClass_of_methodNamed hBd.named
  have hlocks := hBd.notSynchronized
  subst hsz
  have hD := hD.self (sz := s.heap.size)
  have hZA := hZ.own hP
  generalize hAe : va_A (clsW cI cZ ad cx) s.heap.size = A at hD hZA ⊢
  have hA : ∀ q : Nat, s.heap.size ≤ q → A q := fun q h => by rw [← hAe]; exact Or.inr h
  have hZ := hZA
  have hS : va_S A s.heap s.heap [] := va_S.rf
  have hl := lv_entry ([.ref (ad 0), .ref bs]) (n := 4) (Nat.le_of_ble_eq_true rfl)
  rw [lg_entry_eq]
  generalize (lg_sl ([.ref (ad 0), .ref bs]) ++ List.replicate (4 - (lg_sl ([.ref (ad 0), .ref bs])).length) Slot.unset).toArray = ls at hl ⊢
  have hl : lv_has ls 4 [(0, .ref (ad 0)), (1, .ref bs)] := hl
  have hP : va_P D vwCl (clsW cI cZ ad cx) s.heap := hP
  have hbl : bs < s.heap.size := by
    obtain ⟨c9, h9, -⟩ := hX
    exact (Array.getElem?_eq_some_iff.mp h9).1
  have hbA : ¬ A bs := by
    rw [← hAe]
    rintro (⟨k9, e9, h9⟩ | h9)
    · exact hbn k9 e9 h9
    · omega
  have hI0 := AI_0
  have hPI0 := PI_0
  refine va_new (ci := 4) (fs := [.null, .null, .null, .null, .int 0, .int 0]) (C := RX4) (T := TX4) (N := 6) hx hb hts iX4 tyX4 tyX4_ok hown (hts _ qw609) (hts _ qw610) (hts _ qw14) hK hP hD hS hA rfl (fun j hj => by rcases (show j = 0 ∨ j = 1 ∨ j = 2 ∨ j = 3 ∨ j = 4 ∨ j = 5 by omega) with rfl | rfl | rfl | rfl | rfl | rfl <;> rfl) (Nat.le_of_ble_eq_true rfl) (Nat.le_of_ble_eq_true rfl) dL_build_0 (fun n_0 H hP hD hS => ?_)
  have hP : va_P D vwCl (((clsW cI cZ ad cx) ++ [(n_0, .inr (4, [.null, .null, .null, .null, .int 0, .int 0]))]) ++ []) H := by rw [List.append_nil]; exact hP
  have hD : va_D A (((clsW cI cZ ad cx) ++ [(n_0, .inr (4, [.null, .null, .null, .null, .int 0, .int 0]))]) ++ []) := by rw [List.append_nil]; exact hD
  have hP : va_P D vwCl (((clsW cI cZ ad cx) ++ [(n_0, .inr (4, [.null, .null, .null, .null, .int 0, .int 0]))]) ++ va_pl ([]) (fun _ => .inl (cI, 0, .inl (fun _ => 0)))) H := hP
  have hD : va_D A (((clsW cI cZ ad cx) ++ [(n_0, .inr (4, [.null, .null, .null, .null, .int 0, .int 0]))]) ++ va_pl ([]) (fun _ => .inl (cI, 0, .inl (fun _ => 0)))) := hD
  refine lv_dup hx hb dL_build_3 rfl ?_
  refine cp_v (wr := (clsW cI cZ ad cx)) (ws2 := fun u9 => (((clsW cI cZ ad cx) ++ [(n_0, .inr (4, [.ref u9.1, .ref u9.2.1, .ref u9.2.2.1, .ref u9.2.2.2.1, .int 0, .int 0]))]) ++ va_pl u9.2.2.2.2.1 u9.2.2.2.2.2)) (va_runIN (As := []) (rest := [.ref n_0]) ⟨hx, hb, hml, hown, hts⟩ (k_X4_init l D cI cZ cJ cK _ n_0 (fun _ => .inl (cI, 0, .inl (fun _ => 0))) (aH va_A0) (aM va_A0) (aK va_A0) ) ⟨va_cnB 0 hts (gC qw613) rfl rfl rfl (hT.1 _ nw602) (hts _ qw14) (by decide +kernel) ⟨Nat.le_of_ble_eq_true rfl, Nat.le_of_ble_eq_true rfl⟩, rfl, hts _ qw612⟩ (psP (wr := (clsW cI cZ ad cx)) hP hD hK hT hZ hS (pm_1 _ _ _)) rfl rfl hl.1 rfl (lv_room (Nat.le_of_ble_eq_true rfl)) dL_build_4 ⟨Nat.le_of_ble_eq_true rfl, Nat.le_of_ble_eq_true rfl⟩) hS hP hD hA (pm_1 _ _ _) (fun _ => (pm_1 _ _ _).symm) (fun u_4 H locs hw_4 hP hD hS => ?_)
  obtain ⟨lw_4, rk_4, hs_4, em_4, L2_4, f2_4⟩ := u_4
  have hP : va_P D vwCl (((clsW cI cZ ad cx) ++ [(n_0, .inr (4, [.ref lw_4, .ref rk_4, .ref hs_4, .ref em_4, .int 0, .int 0]))]) ++ va_pl L2_4 f2_4) H := hP
  have hD : va_D A (((clsW cI cZ ad cx) ++ [(n_0, .inr (4, [.ref lw_4, .ref rk_4, .ref hs_4, .ref em_4, .int 0, .int 0]))]) ++ va_pl L2_4 f2_4) := hD
  have hw_4 : (SimP cI cJ cK 0 (aH va_A0) (aM va_A0) (aK va_A0) (fun _ => 0) (fun _ => 0) (fun _ _ => []) lw_4 rk_4 hs_4 em_4 L2_4 f2_4) := hw_4
  have v_4 := hw_4
  refine lv_astore_n (lv' := [(2, .ref n_0), (0, .ref (ad 0)), (1, .ref bs)]) hx hb dL_build_7 rfl hl (by decide) rfl (fun ls hl => ?_)
  refine lz_iconst hx hb dL_build_8 (fun x_8 v_8 => ?_)
  refine lv_istore_n (lv' := [(3, .int x_8), (2, .ref n_0), (0, .ref (ad 0)), (1, .ref bs)]) hx hb dL_build_9 rfl hl (by decide) rfl (fun ls hl => ?_)
  have key10 : ∀ (fu : Nat) (k : Nat) (kk : Int32) (Zi : va_AS) (cxi : CX) (emi : Nat) (mti : Int32) (qni : Int32) (Li : List Nat) (fi : Nat → va_E) (H : Heap) (locs : List Loc) (ls : Array Slot), 35 - k < fu → (kk = iI (↑k)) → (k ≤ 34) → (CStx Zi cxi) → (AI Zi) → (PI Zi) → (SMA cI cJ cK Zi lw_4 rk_4 hs_4 emi Li fi) → (mti = aT Zi) → (qni = aQ Zi) → va_P D vwCl (((clsW cI cZ ad cxi) ++ [(n_0, .inr (4, [.ref lw_4, .ref rk_4, .ref hs_4, .ref emi, .int mti, .int qni]))]) ++ va_pl Li fi) H → va_D A (((clsW cI cZ ad cxi) ++ [(n_0, .inr (4, [.ref lw_4, .ref rk_4, .ref hs_4, .ref emi, .int mti, .int qni]))]) ++ va_pl Li fi) → va_S A s.heap H locs → lv_has ls 4 [(3, .int kk), (2, .ref n_0), (0, .ref (ad 0)), (1, .ref bs)] → W p l e (headSpec (ws_ yL_build cL_build 4 (Option.some (.object "RadixHearthLaw$Sim"))) ({ frames := 9, cells := 6013, slots := 218212, locals := 173 })).room s m ([.ref (ad 0), .ref bs] : List Value).toArray below meth c H locs (29 + 176 * k) (34 + 6417 * k) (MQ below (va_Qr (fun (u : va_AS × CX × Nat × Nat × Nat × Nat × Nat × Int32 × Int32 × List Nat × (Nat → va_E)) => True) (fun (u : va_AS × CX × Nat × Nat × Nat × Nat × Nat × Int32 × Int32 × List Nat × (Nat → va_E)) r t => ((r = u.2.2.1) ∧ (CStx u.1 u.2.1) ∧ (AI u.1) ∧ (PI u.1) ∧ (SMA cI cJ cK u.1 u.2.2.2.1 u.2.2.2.2.1 u.2.2.2.2.2.1 u.2.2.2.2.2.2.1 u.2.2.2.2.2.2.2.2.2.1 u.2.2.2.2.2.2.2.2.2.2) ∧ (u.2.2.2.2.2.2.2.1 = aT u.1) ∧ (u.2.2.2.2.2.2.2.2.1 = aQ u.1)) ∧ wPost D A (((clsW cI cZ ad u.2.1) ++ [(u.2.2.1, .inr (4, [.ref u.2.2.2.1, .ref u.2.2.2.2.1, .ref u.2.2.2.2.2.1, .ref u.2.2.2.2.2.2.1, .int u.2.2.2.2.2.2.2.1, .int u.2.2.2.2.2.2.2.2.1]))]) ++ va_pl u.2.2.2.2.2.2.2.2.2.1 u.2.2.2.2.2.2.2.2.2.2) t) A) ([.ref (ad 0), .ref bs] : List Value).toArray s 6013 218212 A) (F0 m 10 ls []) := by
    intro fu
    induction fu with
    | zero => intros; omega
    | succ fu ih10 =>
      intro k kk Zi cxi emi mti qni Li fi H locs ls hfu hik hle hC hI hPI hSP hmt hqn hP hD hS hl
      refine lv_iload_n hx hb dL_build_10 rfl (lv_at hl 0 rfl) ?_
      refine lz_bipush hx hb (by decide) dL_build_11 (fun x_11 v_11 => ?_)
      refine lz_icmp_ge (tgt := 52) hx hb hik v_11 ⟨by omega, by omega⟩ dL_build_13 (by decide) (fun c_13 => ?_) (fun c_13 => ?_)
      · refine lv_aload_n hx hb dL_build_52 rfl (lv_at hl 1 rfl) ?_
        have hP9 := hP
        have hD9 := hD
        refine W.widen (k := 6013) (n := 218212) (by omega) (by omega) ?_
        exact W.aret (v := .ref n_0) hx hb hr (Or.inl ⟨_, rfl⟩) (Or.inr ⟨_, rfl⟩) (fun t ht hW => ⟨⟨⟨Zi, cxi, n_0, lw_4, rk_4, hs_4, emi, mti, qni, Li, fi⟩, n_0, rfl, trivial, ⟨⟨rfl, hC, hI, hPI, hSP, hmt, hqn⟩, ⟨by rw [ht]; exact hP9, hD9⟩⟩⟩, hS.F ht⟩) hS.2.2 dL_build_53
      · refine lv_aload_n hx hb dL_build_16 rfl (lv_at hl 2 rfl) ?_
        refine lv_aload_n hx hb dL_build_17 rfl (lv_at hl 1 rfl) ?_
        refine lv_aload_n hx hb dL_build_18 rfl (lv_at hl 3 rfl) ?_
        refine lv_iload_n hx hb dL_build_19 rfl (lv_at hl 0 rfl) ?_
        refine lz_bipush hx hb (by decide) dL_build_20 (fun x_20 v_20 => ?_)
        refine lv_irem hx hb dL_build_22 (by rw [v_20]; decide) ?_
        refine lv_topi (fun x_22 e_22 => ?_)
        have v_22 : x_22 = iI (↑(k % 16)) := by rw [e_22, hik, v_20]; exact rem_I (d := 16) (by omega) (by decide) (by decide)
        refine cr_i (va_runS (As := [.ref bs, .int x_22]) (rest := [.ref n_0, .ref (ad 0)]) ⟨hx, hb, hml, hown, hts⟩ (k_L_cell l D cI cZ cJ cK _ bs x_22 L xs (k % 16) (v_22.trans (congrArg iI (by omega))) (by omega) (hL)) (va_cwS 2 hts (gS qw517 qw518 qw9 qw519) rfl rfl rfl (by decide +kernel) ⟨Nat.le_of_ble_eq_true rfl, Nat.le_of_ble_eq_true rfl⟩) (psX (wr := (((clsW cI cZ ad cxi) ++ [(n_0, .inr (4, [.ref lw_4, .ref rk_4, .ref hs_4, .ref emi, .int mti, .int qni]))]) ++ va_pl Li fi)) hP hD hK hT hZ hS hX hbl hbA (pm_n _)) rfl rfl hl.1 rfl (lv_room (Nat.le_of_ble_eq_true rfl)) dL_build_23 ⟨(by show (29 + 176 * k) ≤ 6013; omega), (by show (34 + 6417 * k) ≤ 218212; omega)⟩) hS hP (fun x_23 H locs hw_23 hP hS => ?_)
        refine lv_iload_n hx hb dL_build_26 rfl (lv_at hl 0 rfl) ?_
        refine lz_bipush hx hb (by decide) dL_build_27 (fun x_27 v_27 => ?_)
        refine lv_idiv hx hb dL_build_29 (by rw [v_27]; decide) ?_
        refine lv_topi (fun x_29 e_29 => ?_)
        refine lz_iconst hx hb dL_build_30 (fun x_30 v_30 => ?_)
        refine lv_imul hx hb dL_build_31 ?_
        refine lv_topi (fun x_31 e_31 => ?_)
        refine lv_ishr hx hb dL_build_32 ?_
        refine lv_topi (fun x_32 e_32 => ?_)
        refine lz_bipush hx hb (by decide) dL_build_33 (fun x_33 v_33 => ?_)
        refine lv_iload_n hx hb dL_build_35 rfl (lv_at hl 0 rfl) ?_
        refine lv_imul hx hb dL_build_36 ?_
        refine lv_topi (fun x_36 e_36 => ?_)
        refine lv_iadd hx hb dL_build_37 ?_
        refine lv_topi (fun x_37 e_37 => ?_)
        refine cp_i (wr := []) (ws2 := fun u9 => (((clsW cI cZ ad u9.2.1) ++ [(n_0, .inr (4, [.ref lw_4, .ref rk_4, .ref hs_4, .ref u9.2.2.1, .int u9.2.2.2.1, .int u9.2.2.2.2.1]))]) ++ va_pl u9.2.2.2.2.2.1 u9.2.2.2.2.2.2)) (vx_runSW (As := [.ref (ad 0), .ref n_0, .int x_37]) (rest := []) ⟨hx, hb, hml, hown, hts⟩ (k_L_act l hl0 D cI cZ cJ cK _ n_0 x_37 lw_4 rk_4 hs_4 emi mti qni Li fi ad Zi cxi hC hI hPI hSP hmt hqn) (vx_cwSW 3 hts (gSW qw521 qw522 qw9 qw523) rfl rfl rfl (by decide +kernel) ⟨Nat.le_of_ble_eq_true rfl, Nat.le_of_ble_eq_true rfl⟩) (psP (wr := []) hP hD hK hT hZ hS (List.Perm.refl _)) rfl rfl hl.1 rfl (lv_room (Nat.le_of_ble_eq_true rfl)) dL_build_38 ⟨(by show ((29 + 176 * k) + 176) ≤ 6013; omega), (by show ((34 + 6417 * k) + 6417) ≤ 218212; omega)⟩) hS hP hD hA (List.Perm.refl _) (fun _ => List.Perm.refl _) (fun x_38 u_38 H locs hw_38 hP hD hS => ?_)
        obtain ⟨Z2_38, cx2_38, em2_38, mt2_38, qn2_38, L2_38, f2_38⟩ := u_38
        have hP : va_P D vwCl (((clsW cI cZ ad cx2_38) ++ [(n_0, .inr (4, [.ref lw_4, .ref rk_4, .ref hs_4, .ref em2_38, .int mt2_38, .int qn2_38]))]) ++ va_pl L2_38 f2_38) H := hP
        have hD : va_D A (((clsW cI cZ ad cx2_38) ++ [(n_0, .inr (4, [.ref lw_4, .ref rk_4, .ref hs_4, .ref em2_38, .int mt2_38, .int qn2_38]))]) ++ va_pl L2_38 f2_38) := hD
        have hw_38 : (x_38 = iI (1)) ∧ (CStx Z2_38 cx2_38) ∧ (AI Z2_38) ∧ (PI Z2_38) ∧ (SMA cI cJ cK Z2_38 lw_4 rk_4 hs_4 em2_38 L2_38 f2_38) ∧ (mt2_38 = aT Z2_38) ∧ (qn2_38 = aQ Z2_38) ∧ (bel x_37 14 ≠ 5 → ∀ k, k < 2 → aL Zi k ≤ aL Z2_38 k) := hw_38
        obtain ⟨v_38, c_38, ai_38, pi_38, w_38, m_38, q_38, lo_38⟩ := hw_38
        refine lz_if_ne (tgt := 46) hx hb v_38 (by omega) dL_build_41 (by decide) (fun c_41 => ?_) (fun c_41 => ?_)
        · refine lz_iinc (lv2 := fun z => [(3, .int z), (2, .ref n_0), (0, .ref (ad 0)), (1, .ref bs)]) hx hb dL_build_46 hl (k := 0) rfl hik (by decide) (fun _ => rfl) (fun x_46 ls v_46 hl => ?_)
          refine lv_goto (tgt := 10) hx hb dL_build_49 (by decide) ?_
          refine W.widen (k := (29 + 176 * (k + 1))) (n := (34 + 6417 * (k + 1))) (by omega) (by omega) ?_
          exact ih10 (k + 1) x_46 Z2_38 cx2_38 em2_38 mt2_38 qn2_38 L2_38 f2_38 _ _ _ (by omega) (v_46.trans (congrArg iI (by omega))) (by omega) (c_38) (ai_38) (pi_38) (w_38) (m_38) (q_38) hP hD hS (lv_sub hl [0, 1, 2, 3] rfl)
        · exfalso; omega
  refine W.widen (k := (29 + 176 * 0)) (n := (34 + 6417 * 0)) (by omega) (by omega) ?_
  exact key10 _ 0 x_8 va_A0 cx em_4 0 0 L2_4 f2_4 _ _ _ (Nat.lt_succ_self _) (v_8.trans (congrArg iI (by omega))) (by omega) (hC0) (hI0) (hPI0) (v_4.cg (fun e he => absurd he (Nat.not_lt_zero e)) (fun k hk => ⟨rfl, rfl⟩) (fun k b _ _ => rfl)) (rfl) (rfl) hP hD hS (lv_sub hl [0, 1, 2, 3] rfl)
