set_option maxHeartbeats 4000000 in
set_option maxRecDepth 100000 in
theorem k_X3_mean (l : Launch) (D : va_G) (cI cZ cJ cK : ClassId) (hz9 : Nat) (r0 : Nat) (e0 : Nat) (z0 : Nat) (o0 : Nat) (t0 : Nat) (qn : Int32) (eh : Nat) (eo : Nat) (ev : Nat) (er : Nat) (el : Int32) (fh : Nat → Int32) (zn : Int32) (zw : Nat) (zv : Nat) (zs : Nat) (zl : Int32) (zm : Int32) (zk : Int32) (zwa : Nat) (zsz : Int32) (zf : Nat → Int32) (on : Int32) (ow : Nat) (ov : Nat) (os : Nat) (ol : Int32) (om : Int32) (ok : Int32) (owa : Nat) (osz : Int32) (of : Nat → Int32) (n : Nat) (Hh : Nat → Nat) (L0 L1 : List Nat) (hem : embIs el fh n Hh) (hw0 : rowIs zsz zf L0) (hw1 : rowIs osz of L1) (hx0 : ∀ x ∈ L0, x < n) (hx1 : ∀ x ∈ L1, x < n) : MetD lw_cs l yX3_mean (ws_ yX3_mean cX3_mean 2 (Option.some .double)) ({ frames := 3, cells := 0, slots := 0, locals := 64 }) (va_Pc [.ref r0] (wPre D cI cZ cJ cK hz9 [(r0, .inr (3, [.ref e0, .ref z0, .ref o0, .ref t0, .int qn])), (e0, .inr (0, [.ref eh, .ref eo, .ref ev, .ref er, .int el])), (eh, .inl (cI, 40, .inl fh)), (z0, .inr (1, [.ref e0, .int zn, .ref zw, .ref zv, .ref zs, .int zl, .int zm, .int zk])), (zw, .inr (2, [.ref zwa, .int zsz])), (zwa, .inl (cI, 40, .inl zf)), (o0, .inr (1, [.ref e0, .int on, .ref ow, .ref ov, .ref os, .int ol, .int om, .int ok])), (ow, .inr (2, [.ref owa, .int osz])), (owa, .inl (cI, 40, .inl of))])) (va_Qd (fun r (_ : Unit) => (meP (sumL Hh L0 + sumL Hh L1) (L0.length + L1.length) r)) (fun _ _ => True) (fun _ => False)) 0 0 (fun _ => False) := by
  refine MetD.ofW (cc := cX3_mean) (maxL := 2) (ret := (Option.some .double)) (by decide) rfl ?_
  intro p e s m args below meth c s₁ hBd hml hv hd0
  refine va_unb ?_
  obtain ⟨rfl, hsz, hP, hD, hK, hT, hZ⟩ := hv
  have hx := hBd.exec
  have hb := hBd.bytes
  have hr := hBd.returns
  have hts : ∀ w ∈ lw_G, w.before _ s = true := fun w h => atoms_spec (ws := (ws_ yX3_mean cX3_mean 2 (Option.some .double))) hBd.pre w (List.mem_cons_of_mem _ h)
  have hown : s.vm.findClass RX3 = some m.cls := findClass_of_methodNamed hBd.named
  have hlocks := hBd.notSynchronized
  subst hsz
  have hS : va_S (fun _ => False) s.heap s.heap [] := va_S.rf
  have hl := lv_entry ([.ref r0]) (n := 2) (Nat.le_of_ble_eq_true rfl)
  rw [lg_entry_eq]
  generalize (lg_sl ([.ref r0]) ++ List.replicate (2 - (lg_sl ([.ref r0])).length) Slot.unset).toArray = ls at hl ⊢
  have hl : lv_has ls 2 [(0, .ref r0)] := hl
  have hP : va_P D vwCl [(r0, .inr (3, [.ref e0, .ref z0, .ref o0, .ref t0, .int qn])), (e0, .inr (0, [.ref eh, .ref eo, .ref ev, .ref er, .int el])), (eh, .inl (cI, 40, .inl fh)), (z0, .inr (1, [.ref e0, .int zn, .ref zw, .ref zv, .ref zs, .int zl, .int zm, .int zk])), (zw, .inr (2, [.ref zwa, .int zsz])), (zwa, .inl (cI, 40, .inl zf)), (o0, .inr (1, [.ref e0, .int on, .ref ow, .ref ov, .ref os, .int ol, .int om, .int ok])), (ow, .inr (2, [.ref owa, .int osz])), (owa, .inl (cI, 40, .inl of))] s.heap := hP
  have hl0 := hw0.2.1
  have hl1 := hw1.2.1
  refine lv_aload_n hx hb dX3_mean_0 rfl (lv_at hl 0 rfl) ?_
  refine va_get (D := D) (ci := 3) (v := .ref z0) (C := RX3) (T := TX3) (N := 5) hx hb hts iX3 hown hK hP 0 rfl rfl 1 (by decide) (hts _ qw100) (fun _ h9 => h9) rfl dX3_mean_1 ?_
  refine cr_i (va_runV (As := []) (rest := []) ⟨hx, hb, hml, hown, hts⟩ (k_X1_size l D cI cZ cJ cK _ z0 e0 zn zw zv zs zl zm zk zwa zsz ) (cwV 0 hts (gV qw191 qw192 qw193 qw12 qw194) rfl rfl rfl (by decide +kernel) ⟨Nat.le_of_ble_eq_true rfl, Nat.le_of_ble_eq_true rfl⟩) (pv (ci := 1) (r := (RX1, TX1, 8)) (q0 := 3) hP hD hK hT hZ hS [3, 4] rfl rfl rfl rfl) rfl rfl hl.1 rfl (lv_room (Nat.le_of_ble_eq_true rfl)) dX3_mean_4 ⟨Nat.le_of_ble_eq_true rfl, Nat.le_of_ble_eq_true rfl⟩) hS hP (fun x_4 H locs hw_4 hP hS => ?_)
  have hw_4 : (x_4 = zsz) := hw_4
  have v_4 := hw_4
  refine lv_aload_n hx hb dX3_mean_7 rfl (lv_at hl 0 rfl) ?_
  refine va_get (D := D) (ci := 3) (v := .ref o0) (C := RX3) (T := TX3) (N := 5) hx hb hts iX3 hown hK hP 0 rfl rfl 2 (by decide) (hts _ qw101) (fun _ h9 => h9) rfl dX3_mean_8 ?_
  refine cr_i (va_runV (As := []) (rest := [.int x_4]) ⟨hx, hb, hml, hown, hts⟩ (k_X1_size l D cI cZ cJ cK _ o0 e0 on ow ov os ol om ok owa osz ) (cwV 0 hts (gV qw191 qw192 qw193 qw12 qw194) rfl rfl rfl (by decide +kernel) ⟨Nat.le_of_ble_eq_true rfl, Nat.le_of_ble_eq_true rfl⟩) (pv (ci := 1) (r := (RX1, TX1, 8)) (q0 := 6) hP hD hK hT hZ hS [6, 7] rfl rfl rfl rfl) rfl rfl hl.1 rfl (lv_room (Nat.le_of_ble_eq_true rfl)) dX3_mean_11 ⟨Nat.le_of_ble_eq_true rfl, Nat.le_of_ble_eq_true rfl⟩) hS hP (fun x_11 H locs hw_11 hP hS => ?_)
  have hw_11 : (x_11 = osz) := hw_11
  have v_11 := hw_11
  refine lz_iadd hx hb (v_4.trans hw0.1) (v_11.trans hw1.1) dX3_mean_14 (fun x_14 v_14 => ?_)
  refine lv_istore_n (lv' := [(1, .int x_14), (0, .ref r0)]) hx hb dX3_mean_15 rfl hl (by decide) rfl (fun ls hl => ?_)
  refine lv_iload_n hx hb dX3_mean_16 rfl (lv_at hl 0 rfl) ?_
  refine lz_if_ne (tgt := 22) hx hb v_14 (by omega) dX3_mean_17 (by decide) (fun c_17 => ?_) (fun c_17 => ?_)
  · refine lv_aload_n hx hb dX3_mean_22 rfl (lv_at hl 1 rfl) ?_
    refine va_get (D := D) (ci := 3) (v := .ref z0) (C := RX3) (T := TX3) (N := 5) hx hb hts iX3 hown hK hP 0 rfl rfl 1 (by decide) (hts _ qw100) (fun _ h9 => h9) rfl dX3_mean_23 ?_
    refine cr_i (va_runV (As := []) (rest := []) ⟨hx, hb, hml, hown, hts⟩ (k_X1_heatInAll l D cI cZ cJ cK _ z0 e0 zn zw zv zs zl zm zk zwa zsz zf eh eo ev er el fh n Hh L0 (hw0) (hem) (hx0)) (cwV 0 hts (gV qw509 qw510 qw511 qw12 qw512) rfl rfl rfl (by decide +kernel) ⟨Nat.le_of_ble_eq_true rfl, Nat.le_of_ble_eq_true rfl⟩) (pv (ci := 1) (r := (RX1, TX1, 8)) (q0 := 3) hP hD hK hT hZ hS [3, 4, 5, 1, 2] rfl rfl rfl rfl) rfl rfl hl.1 rfl (lv_room (Nat.le_of_ble_eq_true rfl)) dX3_mean_26 ⟨Nat.le_of_ble_eq_true rfl, Nat.le_of_ble_eq_true rfl⟩) hS hP (fun x_26 H locs hw_26 hP hS => ?_)
    have hw_26 : (x_26 = iI (↑(sumL Hh L0))) := hw_26
    have v_26 := hw_26
    refine lv_aload_n hx hb dX3_mean_29 rfl (lv_at hl 1 rfl) ?_
    refine va_get (D := D) (ci := 3) (v := .ref o0) (C := RX3) (T := TX3) (N := 5) hx hb hts iX3 hown hK hP 0 rfl rfl 2 (by decide) (hts _ qw101) (fun _ h9 => h9) rfl dX3_mean_30 ?_
    refine cr_i (va_runV (As := []) (rest := [.int x_26]) ⟨hx, hb, hml, hown, hts⟩ (k_X1_heatInAll l D cI cZ cJ cK _ o0 e0 on ow ov os ol om ok owa osz of eh eo ev er el fh n Hh L1 (hw1) (hem) (hx1)) (cwV 0 hts (gV qw509 qw510 qw511 qw12 qw512) rfl rfl rfl (by decide +kernel) ⟨Nat.le_of_ble_eq_true rfl, Nat.le_of_ble_eq_true rfl⟩) (pv (ci := 1) (r := (RX1, TX1, 8)) (q0 := 6) hP hD hK hT hZ hS [6, 7, 8, 1, 2] rfl rfl rfl rfl) rfl rfl hl.1 rfl (lv_room (Nat.le_of_ble_eq_true rfl)) dX3_mean_33 ⟨Nat.le_of_ble_eq_true rfl, Nat.le_of_ble_eq_true rfl⟩) hS hP (fun x_33 H locs hw_33 hP hS => ?_)
    have hw_33 : (x_33 = iI (↑(sumL Hh L1))) := hw_33
    have v_33 := hw_33
    refine lz_iadd hx hb v_26 v_33 dX3_mean_36 (fun x_36 v_36 => ?_)
    refine lv_i2d hx hb dX3_mean_37 ?_
    refine lv_iload_n hx hb dX3_mean_38 rfl (lv_at hl 0 rfl) ?_
    refine lv_i2d hx hb dX3_mean_39 ?_
    refine W.base ?_
    refine lv_ddiv_any (d0 := s.drawn) hd0 lw_bits hx hb dX3_mean_40 (fun x_40 d9 hal_40 hd9 => ?_)
    refine W.endD hd9 ?_
    exact W.dret (v := x_40) hx hb hr (fun t ht hW => ⟨⟨x_40, (), rfl, ⟨fun q => absurd q (by omega), fun _ => by rw [v_36, v_14] at hal_40; exact hal_40⟩, trivial⟩, hS.F ht⟩) hS.2.2 dX3_mean_41
  · refine lv_dconst0 hx hb dX3_mean_20 ?_
    refine W.base ?_
    refine W.endD hd0 ?_
    exact W.dret (v := FP.dconst0) hx hb hr (fun t ht hW => ⟨⟨FP.dconst0, (), rfl, ⟨fun _ => rfl, fun q => absurd (by omega) q⟩, trivial⟩, hS.F ht⟩) hS.2.2 dX3_mean_21
set_option maxRecDepth 100000 in
theorem k_X3_mean_P (l : Launch) (D : va_G) (cI cZ cJ cK : ClassId) (hz9 : Nat)  (ad : Nat → Nat) (Z : va_AS) (cx : CX)  (hC : CStx Z cx) (hI : AI Z) : MetD lw_cs l yX3_mean (ws_ yX3_mean cX3_mean 2 (Option.some .double)) ({ frames := 3, cells := 0, slots := 0, locals := 64 }) (va_Pc [.ref (ad 0)] (wPre D cI cZ cJ cK hz9 (clsW cI cZ ad cx))) (va_Qd (fun r (_ : Unit) => (meP (sumL (aH Z) (aR Z 0) + sumL (aH Z) (aR Z 1)) ((aR Z 0).length + (aR Z 1).length) r)) (fun _ _ => True) (fun _ => False)) 0 0 (fun _ => False) := by
  obtain ⟨c1, c2, c3, c4, ⟨c5, c6, c7⟩, c8, c9, c10, c11, c12, c13⟩ := id hC
  exact metd_is (k_X3_mean l D cI cZ cJ cK hz9 (ad 0) (ad 1) (ad 6) (ad 12) (ad 18) (cx.1 0) (ad 2) (ad 3) (ad 4) (ad 5) (cx.1 1) (cx.2 0) (cx.1 2) (ad 7) (ad 9) (ad 11) (cx.1 3) (cx.1 4) (cx.1 5) (ad 8) (cx.1 6) (cx.2 4) (cx.1 8) (ad 13) (ad 15) (ad 17) (cx.1 9) (cx.1 10) (cx.1 11) (ad 14) (cx.1 12) (cx.2 7) (aN Z) (aH Z) (aR Z 0) (aR Z 1) c1 c8.2.2.1 c9.2.2.1 ((AI_len hI (by decide)).2.1) ((AI_len hI (by decide)).2.1)) [0, 1, 2, 6, 7, 8, 12, 13, 14] rfl rfl
