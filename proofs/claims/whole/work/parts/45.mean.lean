set_option maxHeartbeats 4000000 in
set_option maxRecDepth 100000 in
theorem k_X3_mean (l : Launch) (D : va_G) (cI cZ cJ : ClassId) (hz9 : Nat) (r0 : Nat) (e0 : Nat) (z0 : Nat) (o0 : Nat) (t0 : Nat) (qn : Int32) (eh : Nat) (eo : Nat) (ev : Nat) (er : Nat) (el : Int32) (fh : Nat → Int32) (zn : Int32) (zw : Nat) (zv : Nat) (zs : Nat) (zl : Int32) (zm : Int32) (zk : Int32) (zwa : Nat) (zsz : Int32) (zf : Nat → Int32) (on : Int32) (ow : Nat) (ov : Nat) (os : Nat) (ol : Int32) (om : Int32) (ok : Int32) (owa : Nat) (osz : Int32) (of : Nat → Int32) (n : Nat) (Hh : Nat → Nat) (L0 L1 : List Nat) (hem : embIs el fh n Hh) (hw0 : rowIs zsz zf L0) (hw1 : rowIs osz of L1) (hx0 : ∀ x ∈ L0, x < n) (hx1 : ∀ x ∈ L1, x < n) : MetD lw_cs l yX3_mean (ws_ yX3_mean cX3_mean 2 (Option.some .double)) ({ frames := 3, cells := 0, slots := 0, locals := 64 }) (va_Pc [.ref r0] (wPre D cI cZ cJ hz9 [(r0, .inr (3, [.ref e0, .ref z0, .ref o0, .ref t0, .int qn])), (e0, .inr (0, [.ref eh, .ref eo, .ref ev, .ref er, .int el])), (eh, .inl (cI, 40, .inl fh)), (z0, .inr (1, [.ref e0, .int zn, .ref zw, .ref zv, .ref zs, .int zl, .int zm, .int zk])), (zw, .inr (2, [.ref zwa, .int zsz])), (zwa, .inl (cI, 40, .inl zf)), (o0, .inr (1, [.ref e0, .int on, .ref ow, .ref ov, .ref os, .int ol, .int om, .int ok])), (ow, .inr (2, [.ref owa, .int osz])), (owa, .inl (cI, 40, .inl of))])) (va_Qd (fun r (_ : Unit) => (meP (sumL Hh L0 + sumL Hh L1) (L0.length + L1.length) r)) (fun _ _ => True) (fun _ => False)) 0 0 (fun _ => False) := by
  refine MetD.ofW (cc := cX3_mean) (maxL := 2) (ret := (Option.some .double)) (by decide) rfl ?_
  intro p e s m args below meth c s₁ hBd hml hv hd0
  refine va_unb ?_
  obtain ⟨rfl, hsz, hP, hD, hK, hT, hZ⟩ := hv
  have hx := hBd.exec
  have hb := hBd.bytes
  have hr := hBd.returns
  have hts : ∀ w ∈ lw_G, w.before _ s = true := fun w h => atoms_spec (ws := ws_ yX3_mean cX3_mean 2 (Option.some .double)) hBd.pre w (List.mem_cons_of_mem _ h)
  have hown : s.vm.findClass RX3 = some m.cls := findClass_of_methodNamed hBd.named
  have hlocks := hBd.notSynchronized
  subst hsz
  have hS : va_S (fun _ => False) s.heap s.heap [] := va_S.rf
  have hl := lv_entry ([.ref r0]) (n := 2) (Nat.le_of_ble_eq_true rfl)
  rw [lg_entry_eq]
  generalize (lg_sl ([.ref r0]) ++ List.replicate (2 - (lg_sl ([.ref r0])).length) Slot.unset).toArray = ls at hl ⊢
  have hl : lv_has ls 2 [(0, .ref r0)] := hl
  have hP : va_P D vwCl [(r0, .inr (3, [.ref e0, .ref z0, .ref o0, .ref t0, .int qn])), (e0, .inr (0, [.ref eh, .ref eo, .ref ev, .ref er, .int el])), (eh, .inl (cI, 40, .inl fh)), (z0, .inr (1, [.ref e0, .int zn, .ref zw, .ref zv, .ref zs, .int zl, .int zm, .int zk])), (zw, .inr (2, [.ref zwa, .int zsz])), (zwa, .inl (cI, 40, .inl zf)), (o0, .inr (1, [.ref e0, .int on, .ref ow, .ref ov, .ref os, .int ol, .int om, .int ok])), (ow, .inr (2, [.ref owa, .int osz])), (owa, .inl (cI, 40, .inl of))] s.heap := hP
  have hl0 := hw0.2.1
  have hl1 := hw1.2.1
  refine lv_aload_n hx hb dX3_mean_0 rfl (lv_at hl 0 rfl) ?_
  refine va_get (D := D) (ci := 3) (v := .ref z0) (C := RX3) (T := TX3) (N := 5) hx hb hts iX3 hown hK hP 0 rfl rfl 1 (by decide) (hts _ qw111) (fun _ h9 => h9) rfl dX3_mean_1 ?_
  refine cr_i (va_runV (As := []) (rest := []) ⟨hx, hb, hml, hown, hts⟩ (k_X1_size l D cI cZ cJ _ z0 e0 zn zw zv zs zl zm zk zwa zsz ) (cwV 0 hts (gV qw130 qw131 qw132 qw21 qw133) rfl rfl rfl (by decide +kernel) ⟨Nat.le_of_ble_eq_true rfl, Nat.le_of_ble_eq_true rfl⟩) (pv (ci := 1) (r := (RX1, TX1, 8)) (q0 := 3) hP hD hK hT hZ hS [3, 4] rfl rfl rfl rfl) rfl rfl hl.1 rfl (lv_room (Nat.le_of_ble_eq_true rfl)) dX3_mean_4 ⟨Nat.le_of_ble_eq_true rfl, Nat.le_of_ble_eq_true rfl⟩) hS hP (fun x_4 H locs hw_4 hP hS => ?_)
  have hw_4 : (x_4 = zsz) := hw_4
  have v_4 := hw_4
  refine lv_aload_n hx hb dX3_mean_7 rfl (lv_at hl 0 rfl) ?_
  refine va_get (D := D) (ci := 3) (v := .ref o0) (C := RX3) (T := TX3) (N := 5) hx hb hts iX3 hown hK hP 0 rfl rfl 2 (by decide) (hts _ qw112) (fun _ h9 => h9) rfl dX3_mean_8 ?_
  refine cr_i (va_runV (As := []) (rest := [.int x_4]) ⟨hx, hb, hml, hown, hts⟩ (k_X1_size l D cI cZ cJ _ o0 e0 on ow ov os ol om ok owa osz ) (cwV 0 hts (gV qw130 qw131 qw132 qw21 qw133) rfl rfl rfl (by decide +kernel) ⟨Nat.le_of_ble_eq_true rfl, Nat.le_of_ble_eq_true rfl⟩) (pv (ci := 1) (r := (RX1, TX1, 8)) (q0 := 6) hP hD hK hT hZ hS [6, 7] rfl rfl rfl rfl) rfl rfl hl.1 rfl (lv_room (Nat.le_of_ble_eq_true rfl)) dX3_mean_11 ⟨Nat.le_of_ble_eq_true rfl, Nat.le_of_ble_eq_true rfl⟩) hS hP (fun x_11 H locs hw_11 hP hS => ?_)
  have hw_11 : (x_11 = osz) := hw_11
  have v_11 := hw_11
  refine lz_iadd hx hb (v_4.trans hw0.1) (v_11.trans hw1.1) dX3_mean_14 (fun x_14 v_14 => ?_)
  refine lv_istore_n (lv' := [(1, .int x_14), (0, .ref r0)]) hx hb dX3_mean_15 rfl hl (by decide) rfl (fun ls hl => ?_)
  refine lv_iload_n hx hb dX3_mean_16 rfl (lv_at hl 0 rfl) ?_
  refine lz_if_ne (tgt := 22) hx hb v_14 (by omega) dX3_mean_17 (by decide) (fun c_17 => ?_) (fun c_17 => ?_)
  · refine lv_aload_n hx hb dX3_mean_22 rfl (lv_at hl 1 rfl) ?_
    refine va_get (D := D) (ci := 3) (v := .ref z0) (C := RX3) (T := TX3) (N := 5) hx hb hts iX3 hown hK hP 0 rfl rfl 1 (by decide) (hts _ qw111) (fun _ h9 => h9) rfl dX3_mean_23 ?_
    refine cr_i (va_runV (As := []) (rest := []) ⟨hx, hb, hml, hown, hts⟩ (k_X1_heatInAll l D cI cZ cJ _ z0 e0 zn zw zv zs zl zm zk zwa zsz zf eh eo ev er el fh n Hh L0 (hw0) (hem) (hx0)) (cwV 0 hts (gV qw138 qw139 qw140 qw21 qw141) rfl rfl rfl (by decide +kernel) ⟨Nat.le_of_ble_eq_true rfl, Nat.le_of_ble_eq_true rfl⟩) (pv (ci := 1) (r := (RX1, TX1, 8)) (q0 := 3) hP hD hK hT hZ hS [3, 4, 5, 1, 2] rfl rfl rfl rfl) rfl rfl hl.1 rfl (lv_room (Nat.le_of_ble_eq_true rfl)) dX3_mean_26 ⟨Nat.le_of_ble_eq_true rfl, Nat.le_of_ble_eq_true rfl⟩) hS hP (fun x_26 H locs hw_26 hP hS => ?_)
    have hw_26 : (x_26 = iI (↑(sumL Hh L0))) := hw_26
    have v_26 := hw_26
    refine lv_aload_n hx hb dX3_mean_29 rfl (lv_at hl 1 rfl) ?_
    refine va_get (D := D) (ci := 3) (v := .ref o0) (C := RX3) (T := TX3) (N := 5) hx hb hts iX3 hown hK hP 0 rfl rfl 2 (by decide) (hts _ qw112) (fun _ h9 => h9) rfl dX3_mean_30 ?_
    refine cr_i (va_runV (As := []) (rest := [.int x_26]) ⟨hx, hb, hml, hown, hts⟩ (k_X1_heatInAll l D cI cZ cJ _ o0 e0 on ow ov os ol om ok owa osz of eh eo ev er el fh n Hh L1 (hw1) (hem) (hx1)) (cwV 0 hts (gV qw138 qw139 qw140 qw21 qw141) rfl rfl rfl (by decide +kernel) ⟨Nat.le_of_ble_eq_true rfl, Nat.le_of_ble_eq_true rfl⟩) (pv (ci := 1) (r := (RX1, TX1, 8)) (q0 := 6) hP hD hK hT hZ hS [6, 7, 8, 1, 2] rfl rfl rfl rfl) rfl rfl hl.1 rfl (lv_room (Nat.le_of_ble_eq_true rfl)) dX3_mean_33 ⟨Nat.le_of_ble_eq_true rfl, Nat.le_of_ble_eq_true rfl⟩) hS hP (fun x_33 H locs hw_33 hP hS => ?_)
    have hw_33 : (x_33 = iI (↑(sumL Hh L1))) := hw_33
    have v_33 := hw_33
    refine lz_iadd hx hb v_26 v_33 dX3_mean_36 (fun x_36 v_36 => ?_)
    refine lv_i2d hx hb dX3_mean_37 ?_
    refine lv_iload_n hx hb dX3_mean_38 rfl (lv_at hl 0 rfl) ?_
    refine lv_i2d hx hb dX3_mean_39 ?_
    refine W.base ?_
    refine lv_ddiv_any (d0 := s.drawn) hd0 lw_bits hx hb dX3_mean_40 (fun x_40 d9 hal_40 hd9 => ?_)
    refine W.endD hd9 ?_
    exact W.dret (v := x_40) hx hb hr (fun t ht hW => ⟨⟨x_40, (), rfl, ⟨fun q => absurd q (by omega), fun _ => by rw [v_36, v_14] at hal_40; exact hal_40⟩, trivial⟩, hS.F ht⟩) hS.2.2 dX3_mean_41
  · refine lv_dconst0 hx hb dX3_mean_20 ?_
    refine W.base ?_
    refine W.endD hd0 ?_
    exact W.dret (v := FP.dconst0) hx hb hr (fun t ht hW => ⟨⟨FP.dconst0, (), rfl, ⟨fun _ => rfl, fun q => absurd (by omega) q⟩, trivial⟩, hS.F ht⟩) hS.2.2 dX3_mean_21
set_option maxHeartbeats 4000000 in
set_option maxRecDepth 100000 in
theorem k_X5_mean (l : Launch) (D : va_G) (cI cZ cJ : ClassId) (hz9 : Nat) (m0 : Nat) (th : Int32) (el : Int32) (s0 : Nat) (z0 : Nat) (sh : Nat) (sa : Nat) (sc : Nat) (sv : Nat) (sr : Nat) (sl : Nat) (sk : Nat) (cg : Int32) (mt : Int32) (qn : Int32) (sw : Nat) (gl : Nat → Int32) (fh : Nat → Int32) (fa : Nat → Int32) (fc : Nat → Int32) (fv : Nat → Int32) (rw : Nat → Int32) (fr : Nat → Int32) (gk : Nat → Int32) (n : Nat) (Hh : Nat → Nat) (av : Nat → Int) (lo : Nat → Nat) (Ls : Nat → List Nat) (rk : Nat → Int) (G : Nat) (hms : MS el fh fa fc gl cg n Hh av lo Ls G) (hrk : rkIs fr n av rk) (hG : G ≤ 268435456) : MetD lw_cs l yX5_mean (ws_ yX5_mean cX5_mean 3 (Option.some .double)) ({ frames := 2, cells := 2, slots := 10, locals := 45 }) (va_Pc [.ref m0] (wPre D cI cZ cJ hz9 [(m0, .inr (5, [.int th, .int el, .ref s0, .ref z0])), (s0, .inr (4, [.ref sh, .ref sa, .ref sc, .ref sv, .ref sr, .ref sl, .ref sk, .int cg, .int mt, .int qn, .ref sw, .ref m0])), (sl, .inl (cI, 2, .inl gl)), (sh, .inl (cI, 40, .inl fh)), (sa, .inl (cI, 40, .inl fa)), (sc, .inl (cI, 40, .inl fc)), (sv, .inl (cI, 40, .inl fv)), (sw, .inl (cI, 40, .inl rw)), (sr, .inl (cI, 40, .inl fr)), (sk, .inl (cI, 2, .inl gk))])) (va_Qd (fun r (u : Int32) => (u = iI (0)) ∧ (meP (sumL Hh (Ls 0) + sumL Hh (Ls 1)) ((Ls 0).length + (Ls 1).length) r)) (fun (u : Int32) t => wPost D (va_A [(m0, .inr (5, [.int th, .int el, .ref s0, .ref z0])), (s0, .inr (4, [.ref sh, .ref sa, .ref sc, .ref sv, .ref sr, .ref sl, .ref sk, .int cg, .int mt, .int qn, .ref sw, .ref m0])), (sl, .inl (cI, 2, .inl gl)), (sh, .inl (cI, 40, .inl fh)), (sa, .inl (cI, 40, .inl fa)), (sc, .inl (cI, 40, .inl fc)), (sv, .inl (cI, 40, .inl fv)), (sw, .inl (cI, 40, .inl rw)), (sr, .inl (cI, 40, .inl fr)), (sk, .inl (cI, 2, .inl gk))] hz9) [(m0, .inr (5, [.int u, .int el, .ref s0, .ref z0])), (s0, .inr (4, [.ref sh, .ref sa, .ref sc, .ref sv, .ref sr, .ref sl, .ref sk, .int cg, .int mt, .int qn, .ref sw, .ref m0])), (sl, .inl (cI, 2, .inl gl)), (sh, .inl (cI, 40, .inl fh)), (sa, .inl (cI, 40, .inl fa)), (sc, .inl (cI, 40, .inl fc)), (sv, .inl (cI, 40, .inl fv)), (sw, .inl (cI, 40, .inl rw)), (sr, .inl (cI, 40, .inl fr)), (sk, .inl (cI, 2, .inl gk))] t) (va_A [(m0, .inr (5, [.int th, .int el, .ref s0, .ref z0])), (s0, .inr (4, [.ref sh, .ref sa, .ref sc, .ref sv, .ref sr, .ref sl, .ref sk, .int cg, .int mt, .int qn, .ref sw, .ref m0])), (sl, .inl (cI, 2, .inl gl)), (sh, .inl (cI, 40, .inl fh)), (sa, .inl (cI, 40, .inl fa)), (sc, .inl (cI, 40, .inl fc)), (sv, .inl (cI, 40, .inl fv)), (sw, .inl (cI, 40, .inl rw)), (sr, .inl (cI, 40, .inl fr)), (sk, .inl (cI, 2, .inl gk))] hz9)) 2 10 (va_A [(m0, .inr (5, [.int th, .int el, .ref s0, .ref z0])), (s0, .inr (4, [.ref sh, .ref sa, .ref sc, .ref sv, .ref sr, .ref sl, .ref sk, .int cg, .int mt, .int qn, .ref sw, .ref m0])), (sl, .inl (cI, 2, .inl gl)), (sh, .inl (cI, 40, .inl fh)), (sa, .inl (cI, 40, .inl fa)), (sc, .inl (cI, 40, .inl fc)), (sv, .inl (cI, 40, .inl fv)), (sw, .inl (cI, 40, .inl rw)), (sr, .inl (cI, 40, .inl fr)), (sk, .inl (cI, 2, .inl gk))] hz9) := by
  refine MetD.ofW (cc := cX5_mean) (maxL := 3) (ret := (Option.some .double)) (by decide) rfl ?_
  intro p e s m args below meth c s₁ hBd hml hv hd0
  refine va_unb ?_
  obtain ⟨rfl, hsz, hP, hD, hK, hT, hZ⟩ := hv
  have hx := hBd.exec
  have hb := hBd.bytes
  have hr := hBd.returns
  have hts : ∀ w ∈ lw_G, w.before _ s = true := fun w h => atoms_spec (ws := ws_ yX5_mean cX5_mean 3 (Option.some .double)) hBd.pre w (List.mem_cons_of_mem _ h)
  have hown : s.vm.findClass RX5 = some m.cls := findClass_of_methodNamed hBd.named
  have hlocks := hBd.notSynchronized
  subst hsz
  have hD := hD.self (sz := s.heap.size)
  have hZA := hZ.own hP
  generalize hAe : va_A [(m0, .inr (5, [.int th, .int el, .ref s0, .ref z0])), (s0, .inr (4, [.ref sh, .ref sa, .ref sc, .ref sv, .ref sr, .ref sl, .ref sk, .int cg, .int mt, .int qn, .ref sw, .ref m0])), (sl, .inl (cI, 2, .inl gl)), (sh, .inl (cI, 40, .inl fh)), (sa, .inl (cI, 40, .inl fa)), (sc, .inl (cI, 40, .inl fc)), (sv, .inl (cI, 40, .inl fv)), (sw, .inl (cI, 40, .inl rw)), (sr, .inl (cI, 40, .inl fr)), (sk, .inl (cI, 2, .inl gk))] s.heap.size = A at hD hZA ⊢
  have hA : ∀ q : Nat, s.heap.size ≤ q → A q := fun q h => by rw [← hAe]; exact Or.inr h
  have hZ := hZA
  have hS : va_S A s.heap s.heap [] := va_S.rf
  have hl := lv_entry ([.ref m0]) (n := 3) (Nat.le_of_ble_eq_true rfl)
  rw [lg_entry_eq]
  generalize (lg_sl ([.ref m0]) ++ List.replicate (3 - (lg_sl ([.ref m0])).length) Slot.unset).toArray = ls at hl ⊢
  have hl : lv_has ls 3 [(0, .ref m0)] := hl
  have hP : va_P D vwCl [(m0, .inr (5, [.int th, .int el, .ref s0, .ref z0])), (s0, .inr (4, [.ref sh, .ref sa, .ref sc, .ref sv, .ref sr, .ref sl, .ref sk, .int cg, .int mt, .int qn, .ref sw, .ref m0])), (sl, .inl (cI, 2, .inl gl)), (sh, .inl (cI, 40, .inl fh)), (sa, .inl (cI, 40, .inl fa)), (sc, .inl (cI, 40, .inl fc)), (sv, .inl (cI, 40, .inl fv)), (sw, .inl (cI, 40, .inl rw)), (sr, .inl (cI, 40, .inl fr)), (sk, .inl (cI, 2, .inl gk))] s.heap := hP
  obtain ⟨cm, g, hgG, hmc⟩ := id hms
  obtain ⟨hem, hat, hca, hlw, hcg, hH⟩ := id hmc
  obtain ⟨hn, hn4, hfh⟩ := id hem
  have hst : MSt (n, Hh, av, lo, Ls, rk, fv, gk, mt, qn) (G + 40) el fh fa fc gl cg fv fr gk mt qn := ⟨MS_mono hms (by omega), hrk, rfl, rfl, rfl, rfl⟩
  have hH2 : ∀ h, h < 2 → inH n av h (Ls h) ∧ (Ls h).Nodup := fun h hh => ⟨(hH h hh).1, ord_nodup (hH h hh).2.1⟩
  have hl0 := inH_nodup_len (hH2 0 (by decide)).2 (fun x hx => (((hH2 0 (by decide)).1 x).mp hx).1)
  have hl1 := inH_nodup_len (hH2 1 (by decide)).2 (fun x hx => (((hH2 1 (by decide)).1 x).mp hx).1)
  refine lv_aload_n hx hb dX5_mean_0 rfl (lv_at hl 0 rfl) ?_
  refine lz_iconst hx hb dX5_mean_1 (fun x_1 v_1 => ?_)
  refine va_put (D := D) (ci := 5) (v := .int x_1) (ty := .int) (C := RX5) (T := TX5) (N := 4) hx hb hts iX5 tyX5 tyX5_ok nmX5 hown hK hP hD hS 0 rfl rfl 0 (by decide) (hts _ qw640) (fun _ h9 => h9) rfl (by decide +kernel) rfl rfl (Nat.le_of_ble_eq_true rfl) dX5_mean_2 (fun H locs hP hD hS => ?_)
  have hP : va_P D vwCl [(m0, .inr (5, [.int x_1, .int el, .ref s0, .ref z0])), (s0, .inr (4, [.ref sh, .ref sa, .ref sc, .ref sv, .ref sr, .ref sl, .ref sk, .int cg, .int mt, .int qn, .ref sw, .ref m0])), (sl, .inl (cI, 2, .inl gl)), (sh, .inl (cI, 40, .inl fh)), (sa, .inl (cI, 40, .inl fa)), (sc, .inl (cI, 40, .inl fc)), (sv, .inl (cI, 40, .inl fv)), (sw, .inl (cI, 40, .inl rw)), (sr, .inl (cI, 40, .inl fr)), (sk, .inl (cI, 2, .inl gk))] H := hP
  have hD : va_D A [(m0, .inr (5, [.int x_1, .int el, .ref s0, .ref z0])), (s0, .inr (4, [.ref sh, .ref sa, .ref sc, .ref sv, .ref sr, .ref sl, .ref sk, .int cg, .int mt, .int qn, .ref sw, .ref m0])), (sl, .inl (cI, 2, .inl gl)), (sh, .inl (cI, 40, .inl fh)), (sa, .inl (cI, 40, .inl fa)), (sc, .inl (cI, 40, .inl fc)), (sv, .inl (cI, 40, .inl fv)), (sw, .inl (cI, 40, .inl rw)), (sr, .inl (cI, 40, .inl fr)), (sk, .inl (cI, 2, .inl gk))] := hD
  refine lz_iconst hx hb dX5_mean_5 (fun x_5 v_5 => ?_)
  refine lv_istore_n (lv' := [(1, .int x_5), (0, .ref m0)]) hx hb dX5_mean_6 rfl hl (by decide) rfl (fun ls hl => ?_)
  refine lz_iconst hx hb dX5_mean_7 (fun x_7 v_7 => ?_)
  refine lv_istore_n (lv' := [(2, .int x_7), (1, .int x_5), (0, .ref m0)]) hx hb dX5_mean_8 rfl hl (by decide) rfl (fun ls hl => ?_)
  have key9 : ∀ (fu : Nat) (i : Nat) (ii : Int32) (acc : Int32) (H : Heap) (locs : List Loc) (ls : Array Slot), n + 1 - i < fu → (ii = iI (↑i)) → (i ≤ n) → (acc = iI (↑(sumL Hh (fl (Ls 0) i) + sumL Hh (fl (Ls 1) i)))) → va_P D vwCl [(m0, .inr (5, [.int x_1, .int el, .ref s0, .ref z0])), (s0, .inr (4, [.ref sh, .ref sa, .ref sc, .ref sv, .ref sr, .ref sl, .ref sk, .int cg, .int mt, .int qn, .ref sw, .ref m0])), (sl, .inl (cI, 2, .inl gl)), (sh, .inl (cI, 40, .inl fh)), (sa, .inl (cI, 40, .inl fa)), (sc, .inl (cI, 40, .inl fc)), (sv, .inl (cI, 40, .inl fv)), (sw, .inl (cI, 40, .inl rw)), (sr, .inl (cI, 40, .inl fr)), (sk, .inl (cI, 2, .inl gk))] H → va_D A [(m0, .inr (5, [.int x_1, .int el, .ref s0, .ref z0])), (s0, .inr (4, [.ref sh, .ref sa, .ref sc, .ref sv, .ref sr, .ref sl, .ref sk, .int cg, .int mt, .int qn, .ref sw, .ref m0])), (sl, .inl (cI, 2, .inl gl)), (sh, .inl (cI, 40, .inl fh)), (sa, .inl (cI, 40, .inl fa)), (sc, .inl (cI, 40, .inl fc)), (sv, .inl (cI, 40, .inl fv)), (sw, .inl (cI, 40, .inl rw)), (sr, .inl (cI, 40, .inl fr)), (sk, .inl (cI, 2, .inl gk))] → va_S A s.heap H locs → lv_has ls 3 [(2, .int ii), (1, .int acc), (0, .ref m0)] → W p l e (headSpec (ws_ yX5_mean cX5_mean 3 (Option.some .double)) ({ frames := 2, cells := 2, slots := 10, locals := 45 })).room s m ([.ref m0] : List Value).toArray below meth c H locs 0 0 (MQD lw_cs below (va_Qd (fun r (u : Int32) => (u = iI (0)) ∧ (meP (sumL Hh (Ls 0) + sumL Hh (Ls 1)) ((Ls 0).length + (Ls 1).length) r)) (fun (u : Int32) t => wPost D A [(m0, .inr (5, [.int u, .int el, .ref s0, .ref z0])), (s0, .inr (4, [.ref sh, .ref sa, .ref sc, .ref sv, .ref sr, .ref sl, .ref sk, .int cg, .int mt, .int qn, .ref sw, .ref m0])), (sl, .inl (cI, 2, .inl gl)), (sh, .inl (cI, 40, .inl fh)), (sa, .inl (cI, 40, .inl fa)), (sc, .inl (cI, 40, .inl fc)), (sv, .inl (cI, 40, .inl fv)), (sw, .inl (cI, 40, .inl rw)), (sr, .inl (cI, 40, .inl fr)), (sk, .inl (cI, 2, .inl gk))] t) A) ([.ref m0] : List Value).toArray s 2 10 A) (F0 m 9 ls []) := by
    intro fu
    induction fu with
    | zero => intros; omega
    | succ fu ih9 =>
      intro i ii acc H locs ls hfu hi hle ha hP hD hS hl
      refine lv_iload_n hx hb dX5_mean_9 rfl (lv_at hl 0 rfl) ?_
      refine lv_aload_n hx hb dX5_mean_10 rfl (lv_at hl 2 rfl) ?_
      refine va_get (D := D) (ci := 5) (v := .int el) (C := RX5) (T := TX5) (N := 4) hx hb hts iX5 hown hK hP 0 rfl rfl 1 (by decide) (hts _ qw641) (fun _ h9 => h9) rfl dX5_mean_11 ?_
      refine lz_icmp_ge (tgt := 52) hx hb hi hn ⟨by omega, by omega⟩ dX5_mean_14 (by decide) (fun c_14 => ?_) (fun c_14 => ?_)
      · have hfa : sumL Hh (fl (Ls 0) i) + sumL Hh (fl (Ls 1) i) = sumL Hh (Ls 0) + sumL Hh (Ls 1) := by rw [fl_all (fun x hx => Nat.lt_of_lt_of_le (((hH2 0 (by decide)).1 x).mp hx).1 (show n ≤ i by omega)), fl_all (fun x hx => Nat.lt_of_lt_of_le (((hH2 1 (by decide)).1 x).mp hx).1 (show n ≤ i by omega))]
        refine lv_aload_n hx hb dX5_mean_52 rfl (lv_at hl 2 rfl) ?_
        refine lz_iconst hx hb dX5_mean_53 (fun x_53 v_53 => ?_)
        refine cm_i (wr := [(sl, .inl (cI, 2, .inl gl)), (sh, .inl (cI, 40, .inl fh)), (sc, .inl (cI, 40, .inl fc)), (sv, .inl (cI, 40, .inl fv)), (sw, .inl (cI, 40, .inl rw)), (sr, .inl (cI, 40, .inl fr))]) (va_runV (As := [.int x_53]) (rest := []) ⟨hx, hb, hml, hown, hts⟩ (k_X5_counted l D cI cZ cJ _ m0 x_53 x_1 el s0 z0 sh sa sc sv sr sl sk cg mt qn sw fa gk n av Ls 1 (hn) (hn4) (hat) (hH2) (v_53.trans (congrArg iI (by omega))) (by decide)) (cwV 1 hts (gV qw800 qw802 qw16 qw23 qw803) rfl rfl rfl (by decide +kernel) ⟨Nat.le_of_ble_eq_true rfl, Nat.le_of_ble_eq_true rfl⟩) (pv (ci := 5) (r := (RX5, TX5, 4)) (q0 := 0) hP hD hK hT hZ hS [0, 1, 4, 9] rfl rfl rfl rfl) rfl rfl hl.1 rfl (lv_room (Nat.le_of_ble_eq_true rfl)) dX5_mean_54 ⟨Nat.le_of_ble_eq_true rfl, Nat.le_of_ble_eq_true rfl⟩) hS hP hD hA [0, 1, 4, 9] [2, 3, 5, 6, 7, 8] rfl rfl rfl (by decide) (fun x_54 u_54 H locs hw_54 hP hD hS => ?_)
        have hP : va_P D vwCl [(sl, .inl (cI, 2, .inl gl)), (sh, .inl (cI, 40, .inl fh)), (sc, .inl (cI, 40, .inl fc)), (sv, .inl (cI, 40, .inl fv)), (sw, .inl (cI, 40, .inl rw)), (sr, .inl (cI, 40, .inl fr)), (m0, .inr (5, [.int x_1, .int el, .ref s0, .ref z0])), (s0, .inr (4, [.ref sh, .ref sa, .ref sc, .ref sv, .ref sr, .ref sl, .ref sk, .int cg, .int mt, .int qn, .ref sw, .ref m0])), (sa, .inl (cI, 40, .inl fa)), (sk, .inl (cI, 2, .inl gk))] H := hP
        have hD : va_D A [(sl, .inl (cI, 2, .inl gl)), (sh, .inl (cI, 40, .inl fh)), (sc, .inl (cI, 40, .inl fc)), (sv, .inl (cI, 40, .inl fv)), (sw, .inl (cI, 40, .inl rw)), (sr, .inl (cI, 40, .inl fr)), (m0, .inr (5, [.int x_1, .int el, .ref s0, .ref z0])), (s0, .inr (4, [.ref sh, .ref sa, .ref sc, .ref sv, .ref sr, .ref sl, .ref sk, .int cg, .int mt, .int qn, .ref sw, .ref m0])), (sa, .inl (cI, 40, .inl fa)), (sk, .inl (cI, 2, .inl gk))] := hD
        have hw_54 : (x_54 = coV n ((Ls 0).length + (Ls 1).length) mt (gk 0 + gk 1) qn 1) := hw_54
        have v_54 := hw_54
        refine lz_if_ne (tgt := 64) hx hb (v_54.trans (coV_n.2.1 rfl)) (by omega) dX5_mean_57 (by decide) (fun c_57 => ?_) (fun c_57 => ?_)
        · refine lv_iload_n hx hb dX5_mean_64 rfl (lv_at hl 1 rfl) ?_
          refine lv_i2d hx hb dX5_mean_65 ?_
          refine lv_aload_n hx hb dX5_mean_66 rfl (lv_at hl 2 rfl) ?_
          refine lz_iconst hx hb dX5_mean_67 (fun x_67 v_67 => ?_)
          refine cm_i (wr := [(sl, .inl (cI, 2, .inl gl)), (sh, .inl (cI, 40, .inl fh)), (sc, .inl (cI, 40, .inl fc)), (sv, .inl (cI, 40, .inl fv)), (sw, .inl (cI, 40, .inl rw)), (sr, .inl (cI, 40, .inl fr))]) (va_runV (As := [.int x_67]) (rest := [.double (FP.i2d acc)]) ⟨hx, hb, hml, hown, hts⟩ (k_X5_counted l D cI cZ cJ _ m0 x_67 x_1 el s0 z0 sh sa sc sv sr sl sk cg mt qn sw fa gk n av Ls 1 (hn) (hn4) (hat) (hH2) (v_67.trans (congrArg iI (by omega))) (by decide)) (cwV 1 hts (gV qw800 qw802 qw16 qw23 qw803) rfl rfl rfl (by decide +kernel) ⟨Nat.le_of_ble_eq_true rfl, Nat.le_of_ble_eq_true rfl⟩) (pv (ci := 5) (r := (RX5, TX5, 4)) (q0 := 6) hP hD hK hT hZ hS [6, 7, 8, 9] rfl rfl rfl rfl) rfl rfl hl.1 rfl (lv_room (Nat.le_of_ble_eq_true rfl)) dX5_mean_68 ⟨Nat.le_of_ble_eq_true rfl, Nat.le_of_ble_eq_true rfl⟩) hS hP hD hA [6, 7, 8, 9] [0, 1, 2, 3, 4, 5] rfl rfl rfl (by decide) (fun x_68 u_68 H locs hw_68 hP hD hS => ?_)
          have hP : va_P D vwCl [(sl, .inl (cI, 2, .inl gl)), (sh, .inl (cI, 40, .inl fh)), (sc, .inl (cI, 40, .inl fc)), (sv, .inl (cI, 40, .inl fv)), (sw, .inl (cI, 40, .inl rw)), (sr, .inl (cI, 40, .inl fr)), (m0, .inr (5, [.int x_1, .int el, .ref s0, .ref z0])), (s0, .inr (4, [.ref sh, .ref sa, .ref sc, .ref sv, .ref sr, .ref sl, .ref sk, .int cg, .int mt, .int qn, .ref sw, .ref m0])), (sa, .inl (cI, 40, .inl fa)), (sk, .inl (cI, 2, .inl gk))] H := hP
          have hD : va_D A [(sl, .inl (cI, 2, .inl gl)), (sh, .inl (cI, 40, .inl fh)), (sc, .inl (cI, 40, .inl fc)), (sv, .inl (cI, 40, .inl fv)), (sw, .inl (cI, 40, .inl rw)), (sr, .inl (cI, 40, .inl fr)), (m0, .inr (5, [.int x_1, .int el, .ref s0, .ref z0])), (s0, .inr (4, [.ref sh, .ref sa, .ref sc, .ref sv, .ref sr, .ref sl, .ref sk, .int cg, .int mt, .int qn, .ref sw, .ref m0])), (sa, .inl (cI, 40, .inl fa)), (sk, .inl (cI, 2, .inl gk))] := hD
          have hw_68 : (x_68 = coV n ((Ls 0).length + (Ls 1).length) mt (gk 0 + gk 1) qn 1) := hw_68
          have v_68 := hw_68
          refine lv_i2d hx hb dX5_mean_71 ?_
          refine W.base ?_
          refine lv_ddiv_any (d0 := s.drawn) hd0 lw_bits hx hb dX5_mean_72 (fun x_72 d9 hal_72 hd9 => ?_)
          have hP9 := va_P_subm (ws' := [(m0, .inr (5, [.int x_1, .int el, .ref s0, .ref z0])), (s0, .inr (4, [.ref sh, .ref sa, .ref sc, .ref sv, .ref sr, .ref sl, .ref sk, .int cg, .int mt, .int qn, .ref sw, .ref m0])), (sl, .inl (cI, 2, .inl gl)), (sh, .inl (cI, 40, .inl fh)), (sa, .inl (cI, 40, .inl fa)), (sc, .inl (cI, 40, .inl fc)), (sv, .inl (cI, 40, .inl fv)), (sw, .inl (cI, 40, .inl rw)), (sr, .inl (cI, 40, .inl fr)), (sk, .inl (cI, 2, .inl gk))]) hP [6, 7, 0, 1, 8, 2, 3, 4, 5, 9] rfl
          have hD9 := hD.sub (ws' := [(m0, .inr (5, [.int x_1, .int el, .ref s0, .ref z0])), (s0, .inr (4, [.ref sh, .ref sa, .ref sc, .ref sv, .ref sr, .ref sl, .ref sk, .int cg, .int mt, .int qn, .ref sw, .ref m0])), (sl, .inl (cI, 2, .inl gl)), (sh, .inl (cI, 40, .inl fh)), (sa, .inl (cI, 40, .inl fa)), (sc, .inl (cI, 40, .inl fc)), (sv, .inl (cI, 40, .inl fv)), (sw, .inl (cI, 40, .inl rw)), (sr, .inl (cI, 40, .inl fr)), (sk, .inl (cI, 2, .inl gk))]) [6, 7, 0, 1, 8, 2, 3, 4, 5, 9] rfl rfl
          refine W.endD hd9 ?_
          refine W.widen (k := 2) (n := 10) (by omega) (by omega) ?_
          exact W.dret (v := x_72) hx hb hr (fun t ht hW => ⟨⟨x_72, x_1, rfl, ⟨v_1, ⟨fun q => absurd q (by omega), fun _ => by rw [ha, v_68.trans (coV_n.2.1 rfl), hfa] at hal_72; exact hal_72⟩⟩, ⟨by rw [ht]; exact hP9, hD9⟩⟩, hS.F ht⟩) hS.2.2 dX5_mean_73
        · refine lv_dconst0 hx hb dX5_mean_60 ?_
          refine lv_goto (tgt := 73) hx hb dX5_mean_61 (by decide) ?_
          have hP9 := va_P_subm (ws' := [(m0, .inr (5, [.int x_1, .int el, .ref s0, .ref z0])), (s0, .inr (4, [.ref sh, .ref sa, .ref sc, .ref sv, .ref sr, .ref sl, .ref sk, .int cg, .int mt, .int qn, .ref sw, .ref m0])), (sl, .inl (cI, 2, .inl gl)), (sh, .inl (cI, 40, .inl fh)), (sa, .inl (cI, 40, .inl fa)), (sc, .inl (cI, 40, .inl fc)), (sv, .inl (cI, 40, .inl fv)), (sw, .inl (cI, 40, .inl rw)), (sr, .inl (cI, 40, .inl fr)), (sk, .inl (cI, 2, .inl gk))]) hP [6, 7, 0, 1, 8, 2, 3, 4, 5, 9] rfl
          have hD9 := hD.sub (ws' := [(m0, .inr (5, [.int x_1, .int el, .ref s0, .ref z0])), (s0, .inr (4, [.ref sh, .ref sa, .ref sc, .ref sv, .ref sr, .ref sl, .ref sk, .int cg, .int mt, .int qn, .ref sw, .ref m0])), (sl, .inl (cI, 2, .inl gl)), (sh, .inl (cI, 40, .inl fh)), (sa, .inl (cI, 40, .inl fa)), (sc, .inl (cI, 40, .inl fc)), (sv, .inl (cI, 40, .inl fv)), (sw, .inl (cI, 40, .inl rw)), (sr, .inl (cI, 40, .inl fr)), (sk, .inl (cI, 2, .inl gk))]) [6, 7, 0, 1, 8, 2, 3, 4, 5, 9] rfl rfl
          refine W.base ?_
          refine W.endD hd0 ?_
          refine W.widen (k := 2) (n := 10) (by omega) (by omega) ?_
          exact W.dret (v := FP.dconst0) hx hb hr (fun t ht hW => ⟨⟨FP.dconst0, x_1, rfl, ⟨v_1, ⟨fun _ => rfl, fun q => absurd (by omega) q⟩⟩, ⟨by rw [ht]; exact hP9, hD9⟩⟩, hS.F ht⟩) hS.2.2 dX5_mean_73
      · refine lv_iload_n hx hb dX5_mean_17 rfl (lv_at hl 1 rfl) ?_
        refine lv_aload_n hx hb dX5_mean_18 rfl (lv_at hl 2 rfl) ?_
        refine va_get (D := D) (ci := 5) (v := .ref s0) (C := RX5) (T := TX5) (N := 4) hx hb hts iX5 hown hK hP 0 rfl rfl 2 (by decide) (hts _ qw643) (fun _ h9 => h9) rfl dX5_mean_19 ?_
        refine va_getN (D := D) (ci := 4) (v := .ref sa) (C := RX4) (T := TX4) (N := 12) hx hb hts iX4 hown hK hP 1 rfl rfl 1 (by decide) (va_Nw.use rfl (hT.1 _ nw579)) (fun _ h9 => h9) rfl dX5_mean_22 ?_
        refine lv_iload_n hx hb dX5_mean_25 rfl (lv_at hl 0 rfl) ?_
        have hai := (hat i (by omega)).2
        have hin0 := (hH2 0 (by decide)).1 i
        have hin1 := (hH2 1 (by decide)).1 i
        refine lz_iald hx hb hK hP 4 0 rfl rfl hi (i) (by omega) (by omega) (by decide) dX5_mean_26 (fun x_26 e_26 => ?_)
        have v_26 : x_26 = iI (av i) := e_26.trans ((hat _ (by omega)).1)
        refine lz_iconst hx hb dX5_mean_27 (fun x_27 v_27 => ?_)
        refine lz_icmp_ne (tgt := 35) hx hb v_26 v_27 ⟨by omega, by omega⟩ dX5_mean_28 (by decide) (fun c_28 => ?_) (fun c_28 => ?_)
        · have hs9 : sumL Hh (fl (Ls 0) (i + 1)) + sumL Hh (fl (Ls 1) (i + 1)) = sumL Hh (fl (Ls 0) i) + sumL Hh (fl (Ls 1) i) + Hh i := by rcases (show av i = 0 ∨ av i = 1 by omega) with q9 | q9; (rw [sumL_in (hH2 0 (by decide)).2 (hin0.mpr ⟨by omega, q9⟩), fl_out (i := i) (L := Ls 1) (fun q => by have := (hin1.mp q).2; omega)]; omega); (rw [sumL_in (hH2 1 (by decide)).2 (hin1.mpr ⟨by omega, q9⟩), fl_out (i := i) (L := Ls 0) (fun q => by have := (hin0.mp q).2; omega)]; omega)
          refine lv_aload_n hx hb dX5_mean_35 rfl (lv_at hl 2 rfl) ?_
          refine va_get (D := D) (ci := 5) (v := .ref s0) (C := RX5) (T := TX5) (N := 4) hx hb hts iX5 hown hK hP 0 rfl rfl 2 (by decide) (hts _ qw643) (fun _ h9 => h9) rfl dX5_mean_36 ?_
          refine va_getN (D := D) (ci := 4) (v := .ref sh) (C := RX4) (T := TX4) (N := 12) hx hb hts iX4 hown hK hP 1 rfl rfl 0 (by decide) (va_Nw.use rfl (hT.1 _ nw577)) (fun _ h9 => h9) rfl dX5_mean_39 ?_
          refine lv_iload_n hx hb dX5_mean_42 rfl (lv_at hl 0 rfl) ?_
          refine lz_iald hx hb hK hP 3 0 rfl rfl hi (i) (by omega) (by omega) (by decide) dX5_mean_43 (fun x_43 e_43 => ?_)
          have v_43 : x_43 = iI (↑(Hh i)) := e_43.trans ((hfh _ (by omega)).1)
          refine lz_iadd hx hb ha v_43 dX5_mean_44 (fun x_44 v_44 => ?_)
          refine lv_istore_n (lv' := [(1, .int x_44), (2, .int ii), (0, .ref m0)]) hx hb dX5_mean_45 rfl hl (by decide) rfl (fun ls hl => ?_)
          refine lz_iinc (lv2 := fun z => [(2, .int z), (1, .int x_44), (0, .ref m0)]) hx hb dX5_mean_46 hl (k := 1) rfl hi (by decide) (fun _ => rfl) (fun x_46 ls v_46 hl => ?_)
          refine lv_goto (tgt := 9) hx hb dX5_mean_49 (by decide) ?_
          exact ih9 (i + 1) x_46 x_44 _ _ _ (by omega) (v_46.trans (congrArg iI (by omega))) (by omega) (v_44.trans (congrArg iI (by omega))) hP hD hS (lv_sub hl [0, 1, 2] rfl)
        · have hs9 : sumL Hh (fl (Ls 0) (i + 1)) + sumL Hh (fl (Ls 1) (i + 1)) = sumL Hh (fl (Ls 0) i) + sumL Hh (fl (Ls 1) i) := by rw [fl_out (fun q => by have := (hin0.mp q).2; omega), fl_out (fun q => by have := (hin1.mp q).2; omega)]
          refine lz_iconst hx hb dX5_mean_31 (fun x_31 v_31 => ?_)
          refine lv_goto (tgt := 44) hx hb dX5_mean_32 (by decide) ?_
          refine lz_iadd hx hb ha v_31 dX5_mean_44 (fun x_44 v_44 => ?_)
          refine lv_istore_n (lv' := [(1, .int x_44), (2, .int ii), (0, .ref m0)]) hx hb dX5_mean_45 rfl hl (by decide) rfl (fun ls hl => ?_)
          refine lz_iinc (lv2 := fun z => [(2, .int z), (1, .int x_44), (0, .ref m0)]) hx hb dX5_mean_46 hl (k := 1) rfl hi (by decide) (fun _ => rfl) (fun x_46 ls v_46 hl => ?_)
          refine lv_goto (tgt := 9) hx hb dX5_mean_49 (by decide) ?_
          exact ih9 (i + 1) x_46 x_44 _ _ _ (by omega) (v_46.trans (congrArg iI (by omega))) (by omega) (v_44.trans (congrArg iI (by omega))) hP hD hS (lv_sub hl [0, 1, 2] rfl)
  exact key9 _ 0 x_7 x_5 _ _ _ (Nat.lt_succ_self _) (v_7.trans (congrArg iI (by omega))) (by omega) (v_5.trans (by rw [fl_0, fl_0]; rfl)) hP hD hS (lv_sub hl [0, 1, 2] rfl)
