set_option maxHeartbeats 4000000 in
set_option maxRecDepth 100000 in
theorem k_X3_count (l : Launch) (D : va_G) (cI cZ cJ cK : ClassId) (hz9 : Nat) (r0 : Nat) (y1 : Int32) (e0 : Nat) (z0 : Nat) (o0 : Nat) (t0 : Nat) (qn : Int32) (eh : Nat) (eo : Nat) (ev : Nat) (er : Nat) (el : Int32) (zn : Int32) (zw : Nat) (zv : Nat) (zs : Nat) (zl : Int32) (zm : Int32) (zk : Int32) (zwa : Nat) (zsz : Int32) (on : Int32) (ow : Nat) (ov : Nat) (os : Nat) (ol : Int32) (om : Int32) (ok : Int32) (owa : Nat) (osz : Int32) (n a b : Nat) (w : Int) (hn : el = iI ↑n) (hza : zsz = iI ↑a) (hob : osz = iI ↑b) (hwv : y1 = iI w) (hwo : 0 ≤ w ∧ w < 5) : Met l yX3_count (ws_ yX3_count cX3_count 2 (Option.some .int)) ({ frames := 2, cells := 0, slots := 0, locals := 40 }) (va_Pc [.ref r0, .int y1] (wPre D cI cZ cJ cK hz9 [(r0, .inr (3, [.ref e0, .ref z0, .ref o0, .ref t0, .int qn])), (e0, .inr (0, [.ref eh, .ref eo, .ref ev, .ref er, .int el])), (z0, .inr (1, [.ref e0, .int zn, .ref zw, .ref zv, .ref zs, .int zl, .int zm, .int zk])), (zw, .inr (2, [.ref zwa, .int zsz])), (o0, .inr (1, [.ref e0, .int on, .ref ow, .ref ov, .ref os, .int ol, .int om, .int ok])), (ow, .inr (2, [.ref owa, .int osz]))])) (va_Qi (fun r (_ : Unit) => (r = coV n (a + b) (zm + om) (zk + ok) qn w)) (fun _ _ => True) (fun _ => False)) 0 0 (fun _ => False) := by
  refine Met.ofW (cc := cX3_count) (maxL := 2) (ret := (Option.some .int)) (by decide) rfl ?_
  intro p e s m args below meth c s₁ hBd hml hv
  obtain ⟨rfl, hsz, hP, hD, hK, hT, hZ⟩ := hv
  have hx := hBd.exec
  have hb := hBd.bytes
  have hr := hBd.returns
  have hts : ∀ w ∈ lw_G, w.before _ s = true := fun w h => atoms_spec (ws := (ws_ yX3_count cX3_count 2 (Option.some .int))) hBd.pre w (List.mem_cons_of_mem _ h)
  have hown : s.vm.findClass RX3 = some m.cls := findClass_of_methodNamed hBd.named
  have hlocks := hBd.notSynchronized
  subst hsz
  have hS : va_S (fun _ => False) s.heap s.heap [] := va_S.rf
  have hl := lv_entry ([.ref r0, .int y1]) (n := 2) (Nat.le_of_ble_eq_true rfl)
  rw [lg_entry_eq]
  generalize (lg_sl ([.ref r0, .int y1]) ++ List.replicate (2 - (lg_sl ([.ref r0, .int y1])).length) Slot.unset).toArray = ls at hl ⊢
  have hl : lv_has ls 2 [(0, .ref r0), (1, .int y1)] := hl
  have hP : va_P D vwCl [(r0, .inr (3, [.ref e0, .ref z0, .ref o0, .ref t0, .int qn])), (e0, .inr (0, [.ref eh, .ref eo, .ref ev, .ref er, .int el])), (z0, .inr (1, [.ref e0, .int zn, .ref zw, .ref zv, .ref zs, .int zl, .int zm, .int zk])), (zw, .inr (2, [.ref zwa, .int zsz])), (o0, .inr (1, [.ref e0, .int on, .ref ow, .ref ov, .ref os, .int ol, .int om, .int ok])), (ow, .inr (2, [.ref owa, .int osz]))] s.heap := hP
  have hco := coV_n (n := n) (t := a + b) (m := zm + om) (k := zk + ok) (q := qn) (w := w)
  refine lv_iload_n hx hb dX3_count_0 rfl (lv_at hl 1 rfl) ?_
  have t_1 : y1.toInt = w := by rw [hwv]; exact iI_t (by omega)
  rcases (show w = 0 ∨ w = 1 ∨ w = 2 ∨ w = 3 ∨ w = 4 ∨ (w < 0 ∨ 4 < w) by omega) with c_1 | c_1 | c_1 | c_1 | c_1 | c_1
  · refine lv_tableIn (off := 35) (tgt := 36) hx hb dX3_count_1 (by rw [t_1]; omega) (by rw [t_1]; omega) (by rw [t_1, c_1]; rfl) (by decide) ?_
    refine lv_aload_n hx hb dX3_count_36 rfl (lv_at hl 0 rfl) ?_
    refine va_get (D := D) (ci := 3) (v := .ref e0) (C := RX3) (T := TX3) (N := 5) hx hb hts iX3 hown hK hP 0 rfl rfl 0 (by decide) (hts _ qw99) (fun _ h9 => h9) rfl dX3_count_37 ?_
    refine cr_i (va_runV (As := []) (rest := []) ⟨hx, hb, hml, hown, hts⟩ (k_X0_lit l D cI cZ cJ cK _ e0 eh eo ev er el ) (cwV 0 hts (gV qw401 qw402 qw403 qw11 qw404) rfl rfl rfl (by decide +kernel) ⟨Nat.le_of_ble_eq_true rfl, Nat.le_of_ble_eq_true rfl⟩) (pv (ci := 0) (r := (RX0, TX0, 5)) (q0 := 1) hP hD hK hT hZ hS [1] rfl rfl rfl rfl) rfl rfl hl.1 rfl (lv_room (Nat.le_of_ble_eq_true rfl)) dX3_count_40 ⟨Nat.le_of_ble_eq_true rfl, Nat.le_of_ble_eq_true rfl⟩) hS hP (fun x_40 H locs hw_40 hP hS => ?_)
    have hw_40 : (x_40 = el) := hw_40
    have v_40 := hw_40
    exact W.iret (v := x_40) hx hb hr (fun t ht hW => ⟨⟨x_40, (), rfl, v_40.trans (hn.trans (hco.1 c_1).symm), trivial⟩, hS.F ht⟩) hS.2.2 dX3_count_43
  · refine lv_tableIn (off := 43) (tgt := 44) hx hb dX3_count_1 (by rw [t_1]; omega) (by rw [t_1]; omega) (by rw [t_1, c_1]; rfl) (by decide) ?_
    refine lv_aload_n hx hb dX3_count_44 rfl (lv_at hl 0 rfl) ?_
    refine va_get (D := D) (ci := 3) (v := .ref z0) (C := RX3) (T := TX3) (N := 5) hx hb hts iX3 hown hK hP 0 rfl rfl 1 (by decide) (hts _ qw100) (fun _ h9 => h9) rfl dX3_count_45 ?_
    refine cr_i (va_runV (As := []) (rest := []) ⟨hx, hb, hml, hown, hts⟩ (k_X1_size l D cI cZ cJ cK _ z0 e0 zn zw zv zs zl zm zk zwa zsz ) (cwV 0 hts (gV qw191 qw192 qw193 qw12 qw194) rfl rfl rfl (by decide +kernel) ⟨Nat.le_of_ble_eq_true rfl, Nat.le_of_ble_eq_true rfl⟩) (pv (ci := 1) (r := (RX1, TX1, 8)) (q0 := 2) hP hD hK hT hZ hS [2, 3] rfl rfl rfl rfl) rfl rfl hl.1 rfl (lv_room (Nat.le_of_ble_eq_true rfl)) dX3_count_48 ⟨Nat.le_of_ble_eq_true rfl, Nat.le_of_ble_eq_true rfl⟩) hS hP (fun x_48 H locs hw_48 hP hS => ?_)
    have hw_48 : (x_48 = zsz) := hw_48
    have v_48 := hw_48
    refine lv_aload_n hx hb dX3_count_51 rfl (lv_at hl 0 rfl) ?_
    refine va_get (D := D) (ci := 3) (v := .ref o0) (C := RX3) (T := TX3) (N := 5) hx hb hts iX3 hown hK hP 0 rfl rfl 2 (by decide) (hts _ qw101) (fun _ h9 => h9) rfl dX3_count_52 ?_
    refine cr_i (va_runV (As := []) (rest := [.int x_48]) ⟨hx, hb, hml, hown, hts⟩ (k_X1_size l D cI cZ cJ cK _ o0 e0 on ow ov os ol om ok owa osz ) (cwV 0 hts (gV qw191 qw192 qw193 qw12 qw194) rfl rfl rfl (by decide +kernel) ⟨Nat.le_of_ble_eq_true rfl, Nat.le_of_ble_eq_true rfl⟩) (pv (ci := 1) (r := (RX1, TX1, 8)) (q0 := 4) hP hD hK hT hZ hS [4, 5] rfl rfl rfl rfl) rfl rfl hl.1 rfl (lv_room (Nat.le_of_ble_eq_true rfl)) dX3_count_55 ⟨Nat.le_of_ble_eq_true rfl, Nat.le_of_ble_eq_true rfl⟩) hS hP (fun x_55 H locs hw_55 hP hS => ?_)
    have hw_55 : (x_55 = osz) := hw_55
    have v_55 := hw_55
    refine lz_iadd hx hb (v_48.trans hza) (v_55.trans hob) dX3_count_58 (fun x_58 v_58 => ?_)
    exact W.iret (v := x_58) hx hb hr (fun t ht hW => ⟨⟨x_58, (), rfl, v_58.trans (hco.2.1 c_1).symm, trivial⟩, hS.F ht⟩) hS.2.2 dX3_count_59
  · refine lv_tableIn (off := 59) (tgt := 60) hx hb dX3_count_1 (by rw [t_1]; omega) (by rw [t_1]; omega) (by rw [t_1, c_1]; rfl) (by decide) ?_
    refine lv_aload_n hx hb dX3_count_60 rfl (lv_at hl 0 rfl) ?_
    refine va_get (D := D) (ci := 3) (v := .ref z0) (C := RX3) (T := TX3) (N := 5) hx hb hts iX3 hown hK hP 0 rfl rfl 1 (by decide) (hts _ qw100) (fun _ h9 => h9) rfl dX3_count_61 ?_
    refine cr_i (va_runV (As := []) (rest := []) ⟨hx, hb, hml, hown, hts⟩ (k_X1_movesMade l D cI cZ cJ cK _ z0 e0 zn zw zv zs zl zm zk ) (cwV 0 hts (gV qw405 qw406 qw407 qw12 qw408) rfl rfl rfl (by decide +kernel) ⟨Nat.le_of_ble_eq_true rfl, Nat.le_of_ble_eq_true rfl⟩) (pv (ci := 1) (r := (RX1, TX1, 8)) (q0 := 2) hP hD hK hT hZ hS [2] rfl rfl rfl rfl) rfl rfl hl.1 rfl (lv_room (Nat.le_of_ble_eq_true rfl)) dX3_count_64 ⟨Nat.le_of_ble_eq_true rfl, Nat.le_of_ble_eq_true rfl⟩) hS hP (fun x_64 H locs hw_64 hP hS => ?_)
    have hw_64 : (x_64 = zm) := hw_64
    have v_64 := hw_64
    refine lv_aload_n hx hb dX3_count_67 rfl (lv_at hl 0 rfl) ?_
    refine va_get (D := D) (ci := 3) (v := .ref o0) (C := RX3) (T := TX3) (N := 5) hx hb hts iX3 hown hK hP 0 rfl rfl 2 (by decide) (hts _ qw101) (fun _ h9 => h9) rfl dX3_count_68 ?_
    refine cr_i (va_runV (As := []) (rest := [.int x_64]) ⟨hx, hb, hml, hown, hts⟩ (k_X1_movesMade l D cI cZ cJ cK _ o0 e0 on ow ov os ol om ok ) (cwV 0 hts (gV qw405 qw406 qw407 qw12 qw408) rfl rfl rfl (by decide +kernel) ⟨Nat.le_of_ble_eq_true rfl, Nat.le_of_ble_eq_true rfl⟩) (pv (ci := 1) (r := (RX1, TX1, 8)) (q0 := 4) hP hD hK hT hZ hS [4] rfl rfl rfl rfl) rfl rfl hl.1 rfl (lv_room (Nat.le_of_ble_eq_true rfl)) dX3_count_71 ⟨Nat.le_of_ble_eq_true rfl, Nat.le_of_ble_eq_true rfl⟩) hS hP (fun x_71 H locs hw_71 hP hS => ?_)
    have hw_71 : (x_71 = om) := hw_71
    have v_71 := hw_71
    refine lv_iadd hx hb dX3_count_74 ?_
    refine lv_topi (fun x_74 e_74 => ?_)
    exact W.iret (v := x_74) hx hb hr (fun t ht hW => ⟨⟨x_74, (), rfl, by rw [hco.2.2.1 c_1, e_74, v_64, v_71], trivial⟩, hS.F ht⟩) hS.2.2 dX3_count_75
  · refine lv_tableIn (off := 75) (tgt := 76) hx hb dX3_count_1 (by rw [t_1]; omega) (by rw [t_1]; omega) (by rw [t_1, c_1]; rfl) (by decide) ?_
    refine lv_aload_n hx hb dX3_count_76 rfl (lv_at hl 0 rfl) ?_
    refine va_get (D := D) (ci := 3) (v := .ref z0) (C := RX3) (T := TX3) (N := 5) hx hb hts iX3 hown hK hP 0 rfl rfl 1 (by decide) (hts _ qw100) (fun _ h9 => h9) rfl dX3_count_77 ?_
    refine cr_i (va_runV (As := []) (rest := []) ⟨hx, hb, hml, hown, hts⟩ (k_X1_rakes l D cI cZ cJ cK _ z0 e0 zn zw zv zs zl zm zk ) (cwV 0 hts (gV qw357 qw358 qw359 qw12 qw360) rfl rfl rfl (by decide +kernel) ⟨Nat.le_of_ble_eq_true rfl, Nat.le_of_ble_eq_true rfl⟩) (pv (ci := 1) (r := (RX1, TX1, 8)) (q0 := 2) hP hD hK hT hZ hS [2] rfl rfl rfl rfl) rfl rfl hl.1 rfl (lv_room (Nat.le_of_ble_eq_true rfl)) dX3_count_80 ⟨Nat.le_of_ble_eq_true rfl, Nat.le_of_ble_eq_true rfl⟩) hS hP (fun x_80 H locs hw_80 hP hS => ?_)
    have hw_80 : (x_80 = zk) := hw_80
    have v_80 := hw_80
    refine lv_aload_n hx hb dX3_count_83 rfl (lv_at hl 0 rfl) ?_
    refine va_get (D := D) (ci := 3) (v := .ref o0) (C := RX3) (T := TX3) (N := 5) hx hb hts iX3 hown hK hP 0 rfl rfl 2 (by decide) (hts _ qw101) (fun _ h9 => h9) rfl dX3_count_84 ?_
    refine cr_i (va_runV (As := []) (rest := [.int x_80]) ⟨hx, hb, hml, hown, hts⟩ (k_X1_rakes l D cI cZ cJ cK _ o0 e0 on ow ov os ol om ok ) (cwV 0 hts (gV qw357 qw358 qw359 qw12 qw360) rfl rfl rfl (by decide +kernel) ⟨Nat.le_of_ble_eq_true rfl, Nat.le_of_ble_eq_true rfl⟩) (pv (ci := 1) (r := (RX1, TX1, 8)) (q0 := 4) hP hD hK hT hZ hS [4] rfl rfl rfl rfl) rfl rfl hl.1 rfl (lv_room (Nat.le_of_ble_eq_true rfl)) dX3_count_87 ⟨Nat.le_of_ble_eq_true rfl, Nat.le_of_ble_eq_true rfl⟩) hS hP (fun x_87 H locs hw_87 hP hS => ?_)
    have hw_87 : (x_87 = ok) := hw_87
    have v_87 := hw_87
    refine lv_iadd hx hb dX3_count_90 ?_
    refine lv_topi (fun x_90 e_90 => ?_)
    exact W.iret (v := x_90) hx hb hr (fun t ht hW => ⟨⟨x_90, (), rfl, by rw [hco.2.2.2.1 c_1, e_90, v_80, v_87], trivial⟩, hS.F ht⟩) hS.2.2 dX3_count_91
  · refine lv_tableIn (off := 91) (tgt := 92) hx hb dX3_count_1 (by rw [t_1]; omega) (by rw [t_1]; omega) (by rw [t_1, c_1]; rfl) (by decide) ?_
    refine lv_aload_n hx hb dX3_count_92 rfl (lv_at hl 0 rfl) ?_
    refine va_get (D := D) (ci := 3) (v := .int qn) (C := RX3) (T := TX3) (N := 5) hx hb hts iX3 hown hK hP 0 rfl rfl 4 (by decide) (hts _ qw103) (fun _ h9 => h9) rfl dX3_count_93 ?_
    exact W.iret (v := qn) hx hb hr (fun t ht hW => ⟨⟨qn, (), rfl, (hco.2.2.2.2 c_1).symm, trivial⟩, hS.F ht⟩) hS.2.2 dX3_count_96
  · exfalso; omega
set_option maxHeartbeats 4000000 in
set_option maxRecDepth 100000 in
theorem k_X3_count_x (l : Launch) (hl0 : l.stackTraces = false) (D : va_G) (cI cZ cJ cK : ClassId) (hz9 : Nat) (r0 : Nat) (y1 : Int32) (e0 : Nat) (z0 : Nat) (o0 : Nat) (t0 : Nat) (qn : Int32) (w : Int) (hwv : y1 = iI w) (hwr : -2147483648 ≤ w ∧ w < 2147483648) (hwo : ¬ (0 ≤ w ∧ w < 5)) : vx_Met l yX3_count (ws_ yX3_count cX3_count 2 (Option.some .int)) ({ frames := 6, cells := 1, slots := 6, locals := 82 }) (va_Pc [.ref r0, .int y1] (wPre D cI cZ cJ cK hz9 [(r0, .inr (3, [.ref e0, .ref z0, .ref o0, .ref t0, .int qn]))])) (va_Qi (fun r (_ : Unit) => (False)) (fun _ _ => True) (fun _ => False)) (vx_X (fun (_ : Unit) => True) (fun E _ _ => E = xI) (fun _ => False)) 1 6 (fun _ => False) := by
  refine vx_ofW (cc := cX3_count) (maxL := 2) (ret := (Option.some .int)) (by decide) rfl ?_
  intro p e s m args below meth c s₁ hBd hml hext hv
  obtain ⟨rfl, hsz, hP, hD, hK, hT, hZ⟩ := hv
  have hx := hBd.exec
  have hb := hBd.bytes
  have hr := hBd.returns
  have hts : ∀ w ∈ lw_G, w.before _ s = true := fun w h => atoms_spec (ws := (ws_ yX3_count cX3_count 2 (Option.some .int))) hBd.pre w (List.mem_cons_of_mem _ h)
  have hown : s.vm.findClass RX3 = some m.cls := findClass_of_methodNamed hBd.named
  have hlocks := hBd.notSynchronized
  subst hsz
  have hS : va_S (fun _ => False) s.heap s.heap [] := va_S.rf
  have hl := lv_entry ([.ref r0, .int y1]) (n := 2) (Nat.le_of_ble_eq_true rfl)
  rw [lg_entry_eq]
  generalize (lg_sl ([.ref r0, .int y1]) ++ List.replicate (2 - (lg_sl ([.ref r0, .int y1])).length) Slot.unset).toArray = ls at hl ⊢
  have hl : lv_has ls 2 [(0, .ref r0), (1, .int y1)] := hl
  have hP : va_P D vwCl [(r0, .inr (3, [.ref e0, .ref z0, .ref o0, .ref t0, .int qn]))] s.heap := hP
  refine lv_iload_n hx hb dX3_count_0 rfl (lv_at hl 1 rfl) ?_
  have t_1 : y1.toInt = w := by rw [hwv]; exact iI_t (by omega)
  rcases (show w = 0 ∨ w = 1 ∨ w = 2 ∨ w = 3 ∨ w = 4 ∨ (w < 0 ∨ 4 < w) by omega) with c_1 | c_1 | c_1 | c_1 | c_1 | c_1
  · exfalso; omega
  · exfalso; omega
  · exfalso; omega
  · exfalso; omega
  · exfalso; omega
  · refine lv_tableOut (tgt := 97) hx hb dX3_count_1 (by rw [t_1]; omega) (by decide) ?_
    exact lz_throw (text := "count tells 0 to 4") hx hb hl0 hown hts hT hZ hS (by rw [hml]; exact hl.1) (by decide +kernel) at_I (by decide +kernel) dX3_count_97 dX3_count_100 dX3_count_101 dX3_count_103 dX3_count_106 (fun x hx9 => (hext x hx9).elim) (Nat.le_of_ble_eq_true rfl) (Nat.le_of_ble_eq_true rfl) (Nat.le_of_ble_eq_true rfl) (Nat.le_of_ble_eq_true rfl) hlocks (fun t hv1 h1 h2 => ⟨(), trivial, rfl, va_F_grow hS h1 h2⟩) (fun z hz => (hS.2.2 z hz).elim) (by omega) (by omega)
set_option maxHeartbeats 4000000 in
set_option maxRecDepth 100000 in
theorem k_X3_bucketWith_0 (l : Launch) (D : va_G) (cI cZ cJ cK : ClassId) (hz9 : Nat) (r0 : Nat) (x0 : Int32) (e0 : Nat) (z0 : Nat) (o0 : Nat) (t0 : Nat) (qn : Int32) (eh : Nat) (eo : Nat) (ev : Nat) (er : Nat) (el : Int32) (fh : Nat → Int32) (fo : Nat → Int32) (zn : Int32) (zw : Nat) (zv : Nat) (zs : Nat) (zl : Int32) (zm : Int32) (zk : Int32) (on : Int32) (ow : Nat) (ov : Nat) (os : Nat) (ol : Int32) (om : Int32) (ok : Int32) (n x lo0 lo1 : Nat) (Hh : Nat → Nat) (a : Int) (hem : embIs el fh n Hh) (hz : zl = iI ↑lo0 ∧ lo0 < 1024) (ho : ol = iI ↑lo1 ∧ lo1 < 1024) (hxv : x0 = iI ↑x) (hxn : x < n) (hfo : fo x = iI a) (ha : a = 0) : Met l yX3_bucketWith (ws_ yX3_bucketWith cX3_bucketWith 3 (Option.some .int)) ({ frames := 2, cells := 0, slots := 0, locals := 42 }) (va_Pc [.ref r0, .int x0] (wPre D cI cZ cJ cK hz9 [(r0, .inr (3, [.ref e0, .ref z0, .ref o0, .ref t0, .int qn])), (e0, .inr (0, [.ref eh, .ref eo, .ref ev, .ref er, .int el])), (eh, .inl (cI, 40, .inl fh)), (eo, .inl (cI, 40, .inl fo)), (z0, .inr (1, [.ref e0, .int zn, .ref zw, .ref zv, .ref zs, .int zl, .int zm, .int zk])), (o0, .inr (1, [.ref e0, .int on, .ref ow, .ref ov, .ref os, .int ol, .int om, .int ok]))])) (va_Qi (fun r (_ : Unit) => (r = iI (bkA a lo0 lo1 (Hh x)))) (fun _ _ => True) (fun _ => False)) 0 0 (fun _ => False) := by
  refine Met.ofW (cc := cX3_bucketWith) (maxL := 3) (ret := (Option.some .int)) (by decide) rfl ?_
  intro p e s m args below meth c s₁ hBd hml hv
  obtain ⟨rfl, hsz, hP, hD, hK, hT, hZ⟩ := hv
  have hx := hBd.exec
  have hb := hBd.bytes
  have hr := hBd.returns
  have hts : ∀ w ∈ lw_G, w.before _ s = true := fun w h => atoms_spec (ws := (ws_ yX3_bucketWith cX3_bucketWith 3 (Option.some .int))) hBd.pre w (List.mem_cons_of_mem _ h)
  have hown : s.vm.findClass RX3 = some m.cls := findClass_of_methodNamed hBd.named
  have hlocks := hBd.notSynchronized
  subst hsz
  have hS : va_S (fun _ => False) s.heap s.heap [] := va_S.rf
  have hl := lv_entry ([.ref r0, .int x0]) (n := 3) (Nat.le_of_ble_eq_true rfl)
  rw [lg_entry_eq]
  generalize (lg_sl ([.ref r0, .int x0]) ++ List.replicate (3 - (lg_sl ([.ref r0, .int x0])).length) Slot.unset).toArray = ls at hl ⊢
  have hl : lv_has ls 3 [(0, .ref r0), (1, .int x0)] := hl
  have hP : va_P D vwCl [(r0, .inr (3, [.ref e0, .ref z0, .ref o0, .ref t0, .int qn])), (e0, .inr (0, [.ref eh, .ref eo, .ref ev, .ref er, .int el])), (eh, .inl (cI, 40, .inl fh)), (eo, .inl (cI, 40, .inl fo)), (z0, .inr (1, [.ref e0, .int zn, .ref zw, .ref zv, .ref zs, .int zl, .int zm, .int zk])), (o0, .inr (1, [.ref e0, .int on, .ref ow, .ref ov, .ref os, .int ol, .int om, .int ok]))] s.heap := hP
  obtain ⟨hn, hn4, hfh⟩ := id hem
  have hxH := hfh x hxn
  subst ha
  refine lv_aload_n hx hb dX3_bucketWith_0 rfl (lv_at hl 0 rfl) ?_
  refine va_get (D := D) (ci := 3) (v := .ref e0) (C := RX3) (T := TX3) (N := 5) hx hb hts iX3 hown hK hP 0 rfl rfl 0 (by decide) (hts _ qw99) (fun _ h9 => h9) rfl dX3_bucketWith_1 ?_
  refine lv_iload_n hx hb dX3_bucketWith_4 rfl (lv_at hl 1 rfl) ?_
  refine cr_i (va_runV (As := [.int x0]) (rest := []) ⟨hx, hb, hml, hown, hts⟩ (k_X0_homeOf l D cI cZ cJ cK _ e0 x0 eh eo ev er el fo n x (hn) (hn4) (hxv.trans (congrArg iI (by omega))) (hxn)) (cwV 1 hts (gV qw380 qw381 qw382 qw11 qw383) rfl rfl rfl (by decide +kernel) ⟨Nat.le_of_ble_eq_true rfl, Nat.le_of_ble_eq_true rfl⟩) (pv (ci := 0) (r := (RX0, TX0, 5)) (q0 := 1) hP hD hK hT hZ hS [1, 3] rfl rfl rfl rfl) rfl rfl hl.1 rfl (lv_room (Nat.le_of_ble_eq_true rfl)) dX3_bucketWith_5 ⟨Nat.le_of_ble_eq_true rfl, Nat.le_of_ble_eq_true rfl⟩) hS hP (fun x_5 H locs hw_5 hP hS => ?_)
  have hw_5 : (x_5 = fo x) := hw_5
  have v_5 := hw_5
  refine lv_istore_n (lv' := [(2, .int x_5), (0, .ref r0), (1, .int x0)]) hx hb dX3_bucketWith_8 rfl hl (by decide) rfl (fun ls hl => ?_)
  refine lv_iload_n hx hb dX3_bucketWith_9 rfl (lv_at hl 0 rfl) ?_
  refine lz_iconst hx hb dX3_bucketWith_10 (fun x_10 v_10 => ?_)
  refine lz_icmp_ne (tgt := 18) hx hb (v_5.trans hfo) v_10 ⟨by omega, by omega⟩ dX3_bucketWith_11 (by decide) (fun c_11 => ?_) (fun c_11 => ?_)
  · refine lv_aload_n hx hb dX3_bucketWith_18 rfl (lv_at hl 1 rfl) ?_
    refine lv_iload_n hx hb dX3_bucketWith_19 rfl (lv_at hl 0 rfl) ?_
    refine cr_r (va_runV (As := [.int x_5]) (rest := []) ⟨hx, hb, hml, hown, hts⟩ (k_X3_hearthOf_0 l D cI cZ cJ cK _ r0 x_5 e0 z0 o0 t0 qn ((v_5.trans hfo).trans (congrArg iI (by omega)))) (cwV 1 hts (gV qw119 qw121 qw0 qw10 qw122) rfl rfl rfl (by decide +kernel) ⟨Nat.le_of_ble_eq_true rfl, Nat.le_of_ble_eq_true rfl⟩) (pv (ci := 3) (r := (RX3, TX3, 5)) (q0 := 0) hP hD hK hT hZ hS [0] rfl rfl rfl rfl) rfl rfl hl.1 rfl (lv_room (Nat.le_of_ble_eq_true rfl)) dX3_bucketWith_20 ⟨Nat.le_of_ble_eq_true rfl, Nat.le_of_ble_eq_true rfl⟩) hS hP (fun x_20 H locs hw_20 hP hS => ?_)
    have hw_20 : (x_20 = z0) := hw_20
    have v_20 := hw_20
    have v_20 := v_20.symm
    subst v_20
    refine lv_aload_n hx hb dX3_bucketWith_23 rfl (lv_at hl 1 rfl) ?_
    refine va_get (D := D) (ci := 3) (v := .ref e0) (C := RX3) (T := TX3) (N := 5) hx hb hts iX3 hown hK hP 0 rfl rfl 0 (by decide) (hts _ qw99) (fun _ h9 => h9) rfl dX3_bucketWith_24 ?_
    refine lv_iload_n hx hb dX3_bucketWith_27 rfl (lv_at hl 2 rfl) ?_
    refine cr_i (va_runV (As := [.int x0]) (rest := [.ref z0]) ⟨hx, hb, hml, hown, hts⟩ (k_X0_heatOf l D cI cZ cJ cK _ e0 x0 eh eo ev er el fh n x (hn) (hn4) (hxv.trans (congrArg iI (by omega))) (hxn)) (cwV 1 hts (gV qw379 qw236 qw237 qw11 qw238) rfl rfl rfl (by decide +kernel) ⟨Nat.le_of_ble_eq_true rfl, Nat.le_of_ble_eq_true rfl⟩) (pv (ci := 0) (r := (RX0, TX0, 5)) (q0 := 1) hP hD hK hT hZ hS [1, 2] rfl rfl rfl rfl) rfl rfl hl.1 rfl (lv_room (Nat.le_of_ble_eq_true rfl)) dX3_bucketWith_28 ⟨Nat.le_of_ble_eq_true rfl, Nat.le_of_ble_eq_true rfl⟩) hS hP (fun x_28 H locs hw_28 hP hS => ?_)
    have hw_28 : (x_28 = fh x) := hw_28
    have v_28 := hw_28
    refine cr_i (va_runV (As := [.int x_28]) (rest := []) ⟨hx, hb, hml, hown, hts⟩ (k_X1_bucketFor l D cI cZ cJ cK _ z0 x_28 e0 zn zw zv zs zl zm zk lo0 (Hh x) (hz.1) (hz.2) ((v_28.trans hxH.1).trans (congrArg iI (by omega))) (hxH.2)) (cwV 1 hts (gV qw343 qw270 qw271 qw12 qw272) rfl rfl rfl (by decide +kernel) ⟨Nat.le_of_ble_eq_true rfl, Nat.le_of_ble_eq_true rfl⟩) (pv (ci := 1) (r := (RX1, TX1, 8)) (q0 := 4) hP hD hK hT hZ hS [4] rfl rfl rfl rfl) rfl rfl hl.1 rfl (lv_room (Nat.le_of_ble_eq_true rfl)) dX3_bucketWith_31 ⟨Nat.le_of_ble_eq_true rfl, Nat.le_of_ble_eq_true rfl⟩) hS hP (fun x_31 H locs hw_31 hP hS => ?_)
    have hw_31 : (x_31 = iI (↑(bk lo0 (Hh x)))) := hw_31
    have v_31 := hw_31
    exact W.iret (v := x_31) hx hb hr (fun t ht hW => ⟨⟨x_31, (), rfl, v_31, trivial⟩, hS.F ht⟩) hS.2.2 dX3_bucketWith_34
  · exfalso; omega
set_option maxHeartbeats 4000000 in
set_option maxRecDepth 100000 in
theorem k_X3_bucketWith_1 (l : Launch) (D : va_G) (cI cZ cJ cK : ClassId) (hz9 : Nat) (r0 : Nat) (x0 : Int32) (e0 : Nat) (z0 : Nat) (o0 : Nat) (t0 : Nat) (qn : Int32) (eh : Nat) (eo : Nat) (ev : Nat) (er : Nat) (el : Int32) (fh : Nat → Int32) (fo : Nat → Int32) (zn : Int32) (zw : Nat) (zv : Nat) (zs : Nat) (zl : Int32) (zm : Int32) (zk : Int32) (on : Int32) (ow : Nat) (ov : Nat) (os : Nat) (ol : Int32) (om : Int32) (ok : Int32) (n x lo0 lo1 : Nat) (Hh : Nat → Nat) (a : Int) (hem : embIs el fh n Hh) (hz : zl = iI ↑lo0 ∧ lo0 < 1024) (ho : ol = iI ↑lo1 ∧ lo1 < 1024) (hxv : x0 = iI ↑x) (hxn : x < n) (hfo : fo x = iI a) (ha : a = 1) : Met l yX3_bucketWith (ws_ yX3_bucketWith cX3_bucketWith 3 (Option.some .int)) ({ frames := 2, cells := 0, slots := 0, locals := 42 }) (va_Pc [.ref r0, .int x0] (wPre D cI cZ cJ cK hz9 [(r0, .inr (3, [.ref e0, .ref z0, .ref o0, .ref t0, .int qn])), (e0, .inr (0, [.ref eh, .ref eo, .ref ev, .ref er, .int el])), (eh, .inl (cI, 40, .inl fh)), (eo, .inl (cI, 40, .inl fo)), (z0, .inr (1, [.ref e0, .int zn, .ref zw, .ref zv, .ref zs, .int zl, .int zm, .int zk])), (o0, .inr (1, [.ref e0, .int on, .ref ow, .ref ov, .ref os, .int ol, .int om, .int ok]))])) (va_Qi (fun r (_ : Unit) => (r = iI (bkA a lo0 lo1 (Hh x)))) (fun _ _ => True) (fun _ => False)) 0 0 (fun _ => False) := by
  refine Met.ofW (cc := cX3_bucketWith) (maxL := 3) (ret := (Option.some .int)) (by decide) rfl ?_
  intro p e s m args below meth c s₁ hBd hml hv
  obtain ⟨rfl, hsz, hP, hD, hK, hT, hZ⟩ := hv
  have hx := hBd.exec
  have hb := hBd.bytes
  have hr := hBd.returns
  have hts : ∀ w ∈ lw_G, w.before _ s = true := fun w h => atoms_spec (ws := (ws_ yX3_bucketWith cX3_bucketWith 3 (Option.some .int))) hBd.pre w (List.mem_cons_of_mem _ h)
  have hown : s.vm.findClass RX3 = some m.cls := findClass_of_methodNamed hBd.named
  have hlocks := hBd.notSynchronized
  subst hsz
  have hS : va_S (fun _ => False) s.heap s.heap [] := va_S.rf
  have hl := lv_entry ([.ref r0, .int x0]) (n := 3) (Nat.le_of_ble_eq_true rfl)
  rw [lg_entry_eq]
  generalize (lg_sl ([.ref r0, .int x0]) ++ List.replicate (3 - (lg_sl ([.ref r0, .int x0])).length) Slot.unset).toArray = ls at hl ⊢
  have hl : lv_has ls 3 [(0, .ref r0), (1, .int x0)] := hl
  have hP : va_P D vwCl [(r0, .inr (3, [.ref e0, .ref z0, .ref o0, .ref t0, .int qn])), (e0, .inr (0, [.ref eh, .ref eo, .ref ev, .ref er, .int el])), (eh, .inl (cI, 40, .inl fh)), (eo, .inl (cI, 40, .inl fo)), (z0, .inr (1, [.ref e0, .int zn, .ref zw, .ref zv, .ref zs, .int zl, .int zm, .int zk])), (o0, .inr (1, [.ref e0, .int on, .ref ow, .ref ov, .ref os, .int ol, .int om, .int ok]))] s.heap := hP
  obtain ⟨hn, hn4, hfh⟩ := id hem
  have hxH := hfh x hxn
  subst ha
  refine lv_aload_n hx hb dX3_bucketWith_0 rfl (lv_at hl 0 rfl) ?_
  refine va_get (D := D) (ci := 3) (v := .ref e0) (C := RX3) (T := TX3) (N := 5) hx hb hts iX3 hown hK hP 0 rfl rfl 0 (by decide) (hts _ qw99) (fun _ h9 => h9) rfl dX3_bucketWith_1 ?_
  refine lv_iload_n hx hb dX3_bucketWith_4 rfl (lv_at hl 1 rfl) ?_
  refine cr_i (va_runV (As := [.int x0]) (rest := []) ⟨hx, hb, hml, hown, hts⟩ (k_X0_homeOf l D cI cZ cJ cK _ e0 x0 eh eo ev er el fo n x (hn) (hn4) (hxv.trans (congrArg iI (by omega))) (hxn)) (cwV 1 hts (gV qw380 qw381 qw382 qw11 qw383) rfl rfl rfl (by decide +kernel) ⟨Nat.le_of_ble_eq_true rfl, Nat.le_of_ble_eq_true rfl⟩) (pv (ci := 0) (r := (RX0, TX0, 5)) (q0 := 1) hP hD hK hT hZ hS [1, 3] rfl rfl rfl rfl) rfl rfl hl.1 rfl (lv_room (Nat.le_of_ble_eq_true rfl)) dX3_bucketWith_5 ⟨Nat.le_of_ble_eq_true rfl, Nat.le_of_ble_eq_true rfl⟩) hS hP (fun x_5 H locs hw_5 hP hS => ?_)
  have hw_5 : (x_5 = fo x) := hw_5
  have v_5 := hw_5
  refine lv_istore_n (lv' := [(2, .int x_5), (0, .ref r0), (1, .int x0)]) hx hb dX3_bucketWith_8 rfl hl (by decide) rfl (fun ls hl => ?_)
  refine lv_iload_n hx hb dX3_bucketWith_9 rfl (lv_at hl 0 rfl) ?_
  refine lz_iconst hx hb dX3_bucketWith_10 (fun x_10 v_10 => ?_)
  refine lz_icmp_ne (tgt := 18) hx hb (v_5.trans hfo) v_10 ⟨by omega, by omega⟩ dX3_bucketWith_11 (by decide) (fun c_11 => ?_) (fun c_11 => ?_)
  · refine lv_aload_n hx hb dX3_bucketWith_18 rfl (lv_at hl 1 rfl) ?_
    refine lv_iload_n hx hb dX3_bucketWith_19 rfl (lv_at hl 0 rfl) ?_
    refine cr_r (va_runV (As := [.int x_5]) (rest := []) ⟨hx, hb, hml, hown, hts⟩ (k_X3_hearthOf_1 l D cI cZ cJ cK _ r0 x_5 e0 z0 o0 t0 qn ((v_5.trans hfo).trans (congrArg iI (by omega)))) (cwV 1 hts (gV qw119 qw121 qw0 qw10 qw122) rfl rfl rfl (by decide +kernel) ⟨Nat.le_of_ble_eq_true rfl, Nat.le_of_ble_eq_true rfl⟩) (pv (ci := 3) (r := (RX3, TX3, 5)) (q0 := 0) hP hD hK hT hZ hS [0] rfl rfl rfl rfl) rfl rfl hl.1 rfl (lv_room (Nat.le_of_ble_eq_true rfl)) dX3_bucketWith_20 ⟨Nat.le_of_ble_eq_true rfl, Nat.le_of_ble_eq_true rfl⟩) hS hP (fun x_20 H locs hw_20 hP hS => ?_)
    have hw_20 : (x_20 = o0) := hw_20
    have v_20 := hw_20
    have v_20 := v_20.symm
    subst v_20
    refine lv_aload_n hx hb dX3_bucketWith_23 rfl (lv_at hl 1 rfl) ?_
    refine va_get (D := D) (ci := 3) (v := .ref e0) (C := RX3) (T := TX3) (N := 5) hx hb hts iX3 hown hK hP 0 rfl rfl 0 (by decide) (hts _ qw99) (fun _ h9 => h9) rfl dX3_bucketWith_24 ?_
    refine lv_iload_n hx hb dX3_bucketWith_27 rfl (lv_at hl 2 rfl) ?_
    refine cr_i (va_runV (As := [.int x0]) (rest := [.ref o0]) ⟨hx, hb, hml, hown, hts⟩ (k_X0_heatOf l D cI cZ cJ cK _ e0 x0 eh eo ev er el fh n x (hn) (hn4) (hxv.trans (congrArg iI (by omega))) (hxn)) (cwV 1 hts (gV qw379 qw236 qw237 qw11 qw238) rfl rfl rfl (by decide +kernel) ⟨Nat.le_of_ble_eq_true rfl, Nat.le_of_ble_eq_true rfl⟩) (pv (ci := 0) (r := (RX0, TX0, 5)) (q0 := 1) hP hD hK hT hZ hS [1, 2] rfl rfl rfl rfl) rfl rfl hl.1 rfl (lv_room (Nat.le_of_ble_eq_true rfl)) dX3_bucketWith_28 ⟨Nat.le_of_ble_eq_true rfl, Nat.le_of_ble_eq_true rfl⟩) hS hP (fun x_28 H locs hw_28 hP hS => ?_)
    have hw_28 : (x_28 = fh x) := hw_28
    have v_28 := hw_28
    refine cr_i (va_runV (As := [.int x_28]) (rest := []) ⟨hx, hb, hml, hown, hts⟩ (k_X1_bucketFor l D cI cZ cJ cK _ o0 x_28 e0 on ow ov os ol om ok lo1 (Hh x) (ho.1) (ho.2) ((v_28.trans hxH.1).trans (congrArg iI (by omega))) (hxH.2)) (cwV 1 hts (gV qw343 qw270 qw271 qw12 qw272) rfl rfl rfl (by decide +kernel) ⟨Nat.le_of_ble_eq_true rfl, Nat.le_of_ble_eq_true rfl⟩) (pv (ci := 1) (r := (RX1, TX1, 8)) (q0 := 5) hP hD hK hT hZ hS [5] rfl rfl rfl rfl) rfl rfl hl.1 rfl (lv_room (Nat.le_of_ble_eq_true rfl)) dX3_bucketWith_31 ⟨Nat.le_of_ble_eq_true rfl, Nat.le_of_ble_eq_true rfl⟩) hS hP (fun x_31 H locs hw_31 hP hS => ?_)
    have hw_31 : (x_31 = iI (↑(bk lo1 (Hh x)))) := hw_31
    have v_31 := hw_31
    exact W.iret (v := x_31) hx hb hr (fun t ht hW => ⟨⟨x_31, (), rfl, v_31, trivial⟩, hS.F ht⟩) hS.2.2 dX3_bucketWith_34
  · exfalso; omega
set_option maxHeartbeats 4000000 in
set_option maxRecDepth 100000 in
theorem k_X3_bucketWith_g (l : Launch) (D : va_G) (cI cZ cJ cK : ClassId) (hz9 : Nat) (r0 : Nat) (x0 : Int32) (e0 : Nat) (z0 : Nat) (o0 : Nat) (t0 : Nat) (qn : Int32) (eh : Nat) (eo : Nat) (ev : Nat) (er : Nat) (el : Int32) (fh : Nat → Int32) (fo : Nat → Int32) (zn : Int32) (zw : Nat) (zv : Nat) (zs : Nat) (zl : Int32) (zm : Int32) (zk : Int32) (on : Int32) (ow : Nat) (ov : Nat) (os : Nat) (ol : Int32) (om : Int32) (ok : Int32) (n x lo0 lo1 : Nat) (Hh : Nat → Nat) (a : Int) (hem : embIs el fh n Hh) (hz : zl = iI ↑lo0 ∧ lo0 < 1024) (ho : ol = iI ↑lo1 ∧ lo1 < 1024) (hxv : x0 = iI ↑x) (hxn : x < n) (hfo : fo x = iI a) (ha : a = -1) : Met l yX3_bucketWith (ws_ yX3_bucketWith cX3_bucketWith 3 (Option.some .int)) ({ frames := 2, cells := 0, slots := 0, locals := 42 }) (va_Pc [.ref r0, .int x0] (wPre D cI cZ cJ cK hz9 [(r0, .inr (3, [.ref e0, .ref z0, .ref o0, .ref t0, .int qn])), (e0, .inr (0, [.ref eh, .ref eo, .ref ev, .ref er, .int el])), (eh, .inl (cI, 40, .inl fh)), (eo, .inl (cI, 40, .inl fo)), (z0, .inr (1, [.ref e0, .int zn, .ref zw, .ref zv, .ref zs, .int zl, .int zm, .int zk])), (o0, .inr (1, [.ref e0, .int on, .ref ow, .ref ov, .ref os, .int ol, .int om, .int ok]))])) (va_Qi (fun r (_ : Unit) => (r = iI (bkA a lo0 lo1 (Hh x)))) (fun _ _ => True) (fun _ => False)) 0 0 (fun _ => False) := by
  refine Met.ofW (cc := cX3_bucketWith) (maxL := 3) (ret := (Option.some .int)) (by decide) rfl ?_
  intro p e s m args below meth c s₁ hBd hml hv
  obtain ⟨rfl, hsz, hP, hD, hK, hT, hZ⟩ := hv
  have hx := hBd.exec
  have hb := hBd.bytes
  have hr := hBd.returns
  have hts : ∀ w ∈ lw_G, w.before _ s = true := fun w h => atoms_spec (ws := (ws_ yX3_bucketWith cX3_bucketWith 3 (Option.some .int))) hBd.pre w (List.mem_cons_of_mem _ h)
  have hown : s.vm.findClass RX3 = some m.cls := findClass_of_methodNamed hBd.named
  have hlocks := hBd.notSynchronized
  subst hsz
  have hS : va_S (fun _ => False) s.heap s.heap [] := va_S.rf
  have hl := lv_entry ([.ref r0, .int x0]) (n := 3) (Nat.le_of_ble_eq_true rfl)
  rw [lg_entry_eq]
  generalize (lg_sl ([.ref r0, .int x0]) ++ List.replicate (3 - (lg_sl ([.ref r0, .int x0])).length) Slot.unset).toArray = ls at hl ⊢
  have hl : lv_has ls 3 [(0, .ref r0), (1, .int x0)] := hl
  have hP : va_P D vwCl [(r0, .inr (3, [.ref e0, .ref z0, .ref o0, .ref t0, .int qn])), (e0, .inr (0, [.ref eh, .ref eo, .ref ev, .ref er, .int el])), (eh, .inl (cI, 40, .inl fh)), (eo, .inl (cI, 40, .inl fo)), (z0, .inr (1, [.ref e0, .int zn, .ref zw, .ref zv, .ref zs, .int zl, .int zm, .int zk])), (o0, .inr (1, [.ref e0, .int on, .ref ow, .ref ov, .ref os, .int ol, .int om, .int ok]))] s.heap := hP
  obtain ⟨hn, hn4, hfh⟩ := id hem
  have hxH := hfh x hxn
  subst ha
  refine lv_aload_n hx hb dX3_bucketWith_0 rfl (lv_at hl 0 rfl) ?_
  refine va_get (D := D) (ci := 3) (v := .ref e0) (C := RX3) (T := TX3) (N := 5) hx hb hts iX3 hown hK hP 0 rfl rfl 0 (by decide) (hts _ qw99) (fun _ h9 => h9) rfl dX3_bucketWith_1 ?_
  refine lv_iload_n hx hb dX3_bucketWith_4 rfl (lv_at hl 1 rfl) ?_
  refine cr_i (va_runV (As := [.int x0]) (rest := []) ⟨hx, hb, hml, hown, hts⟩ (k_X0_homeOf l D cI cZ cJ cK _ e0 x0 eh eo ev er el fo n x (hn) (hn4) (hxv.trans (congrArg iI (by omega))) (hxn)) (cwV 1 hts (gV qw380 qw381 qw382 qw11 qw383) rfl rfl rfl (by decide +kernel) ⟨Nat.le_of_ble_eq_true rfl, Nat.le_of_ble_eq_true rfl⟩) (pv (ci := 0) (r := (RX0, TX0, 5)) (q0 := 1) hP hD hK hT hZ hS [1, 3] rfl rfl rfl rfl) rfl rfl hl.1 rfl (lv_room (Nat.le_of_ble_eq_true rfl)) dX3_bucketWith_5 ⟨Nat.le_of_ble_eq_true rfl, Nat.le_of_ble_eq_true rfl⟩) hS hP (fun x_5 H locs hw_5 hP hS => ?_)
  have hw_5 : (x_5 = fo x) := hw_5
  have v_5 := hw_5
  refine lv_istore_n (lv' := [(2, .int x_5), (0, .ref r0), (1, .int x0)]) hx hb dX3_bucketWith_8 rfl hl (by decide) rfl (fun ls hl => ?_)
  refine lv_iload_n hx hb dX3_bucketWith_9 rfl (lv_at hl 0 rfl) ?_
  refine lz_iconst hx hb dX3_bucketWith_10 (fun x_10 v_10 => ?_)
  refine lz_icmp_ne (tgt := 18) hx hb (v_5.trans hfo) v_10 ⟨by omega, by omega⟩ dX3_bucketWith_11 (by decide) (fun c_11 => ?_) (fun c_11 => ?_)
  · exfalso; omega
  · refine lz_iconst hx hb dX3_bucketWith_14 (fun x_14 v_14 => ?_)
    refine lv_goto (tgt := 34) hx hb dX3_bucketWith_15 (by decide) ?_
    exact W.iret (v := x_14) hx hb hr (fun t ht hW => ⟨⟨x_14, (), rfl, v_14, trivial⟩, hS.F ht⟩) hS.2.2 dX3_bucketWith_34
set_option maxHeartbeats 4000000 in
set_option maxRecDepth 100000 in
theorem k_X3_told_0 (l : Launch) (D : va_G) (cI cZ cJ cK : ClassId) (hz9 : Nat) (r0 : Nat) (x0 : Int32) (y1 : Int32) (e0 : Nat) (z0 : Nat) (o0 : Nat) (t0 : Nat) (qn : Int32) (eh : Nat) (eo : Nat) (ev : Nat) (er : Nat) (el : Int32) (fh : Nat → Int32) (fo : Nat → Int32) (fm : Nat → Int32) (fr : Nat → Int32) (zn : Int32) (zw : Nat) (zv : Nat) (zs : Nat) (zl : Int32) (zm : Int32) (zk : Int32) (on : Int32) (ow : Nat) (ov : Nat) (os : Nat) (ol : Int32) (om : Int32) (ok : Int32) (n x lo0 lo1 : Nat) (Hh : Nat → Nat) (a k w : Int) (hem : embIs el fh n Hh) (hz : zl = iI ↑lo0 ∧ lo0 < 1024) (ho : ol = iI ↑lo1 ∧ lo1 < 1024) (hxv : x0 = iI ↑x) (hxn : x < n) (hfo : fo x = iI a) (ha : a = 0) (hfr : fr x = iI k) (hk : k = 0 ∨ k = 1) (hwv : y1 = iI w) (hwo : 0 ≤ w ∧ w < 5) : Met l yX3_told (ws_ yX3_told cX3_told 3 (Option.some .int)) ({ frames := 3, cells := 0, slots := 0, locals := 64 }) (va_Pc [.ref r0, .int x0, .int y1] (wPre D cI cZ cJ cK hz9 [(r0, .inr (3, [.ref e0, .ref z0, .ref o0, .ref t0, .int qn])), (e0, .inr (0, [.ref eh, .ref eo, .ref ev, .ref er, .int el])), (eh, .inl (cI, 40, .inl fh)), (eo, .inl (cI, 40, .inl fo)), (ev, .inl (cI, 40, .inl fm)), (er, .inl (cZ, 40, .inl fr)), (z0, .inr (1, [.ref e0, .int zn, .ref zw, .ref zv, .ref zs, .int zl, .int zm, .int zk])), (o0, .inr (1, [.ref e0, .int on, .ref ow, .ref ov, .ref os, .int ol, .int om, .int ok]))])) (va_Qi (fun r (_ : Unit) => (r = toV (Hh x) a (bkA a lo0 lo1 (Hh x)) (fm x) k w)) (fun _ _ => True) (fun _ => False)) 0 0 (fun _ => False) := by
  refine Met.ofW (cc := cX3_told) (maxL := 3) (ret := (Option.some .int)) (by decide) rfl ?_
  intro p e s m args below meth c s₁ hBd hml hv
  obtain ⟨rfl, hsz, hP, hD, hK, hT, hZ⟩ := hv
  have hx := hBd.exec
  have hb := hBd.bytes
  have hr := hBd.returns
  have hts : ∀ w ∈ lw_G, w.before _ s = true := fun w h => atoms_spec (ws := (ws_ yX3_told cX3_told 3 (Option.some .int))) hBd.pre w (List.mem_cons_of_mem _ h)
  have hown : s.vm.findClass RX3 = some m.cls := findClass_of_methodNamed hBd.named
  have hlocks := hBd.notSynchronized
  subst hsz
  have hS : va_S (fun _ => False) s.heap s.heap [] := va_S.rf
  have hl := lv_entry ([.ref r0, .int x0, .int y1]) (n := 3) (Nat.le_of_ble_eq_true rfl)
  rw [lg_entry_eq]
  generalize (lg_sl ([.ref r0, .int x0, .int y1]) ++ List.replicate (3 - (lg_sl ([.ref r0, .int x0, .int y1])).length) Slot.unset).toArray = ls at hl ⊢
  have hl : lv_has ls 3 [(0, .ref r0), (1, .int x0), (2, .int y1)] := hl
  have hP : va_P D vwCl [(r0, .inr (3, [.ref e0, .ref z0, .ref o0, .ref t0, .int qn])), (e0, .inr (0, [.ref eh, .ref eo, .ref ev, .ref er, .int el])), (eh, .inl (cI, 40, .inl fh)), (eo, .inl (cI, 40, .inl fo)), (ev, .inl (cI, 40, .inl fm)), (er, .inl (cZ, 40, .inl fr)), (z0, .inr (1, [.ref e0, .int zn, .ref zw, .ref zv, .ref zs, .int zl, .int zm, .int zk])), (o0, .inr (1, [.ref e0, .int on, .ref ow, .ref ov, .ref os, .int ol, .int om, .int ok]))] s.heap := hP
  obtain ⟨hn, hn4, hfh⟩ := id hem
  have hxH := hfh x hxn
  have hto := toV_n (h := Hh x) (a := a) (b := bkA a lo0 lo1 (Hh x)) (m := fm x) (k := k) (w := w)
  refine lv_aload_n hx hb dX3_told_0 rfl (lv_at hl 0 rfl) ?_
  refine lv_iload_n hx hb dX3_told_1 rfl (lv_at hl 1 rfl) ?_
  refine cr_v (va_runV (As := [.int x0]) (rest := []) ⟨hx, hb, hml, hown, hts⟩ (k_X3_refuseUnlit l D cI cZ cJ cK _ r0 x0 e0 z0 o0 t0 qn eh eo ev er el n x (hn) (hn4) (hxv.trans (congrArg iI (by omega))) (hxn)) (cwV 1 hts (gV qw373 qw375 qw5 qw10 qw376) rfl rfl rfl (by decide +kernel) ⟨Nat.le_of_ble_eq_true rfl, Nat.le_of_ble_eq_true rfl⟩) (pv (ci := 3) (r := (RX3, TX3, 5)) (q0 := 0) hP hD hK hT hZ hS [0, 1] rfl rfl rfl rfl) rfl rfl hl.1 rfl (lv_room (Nat.le_of_ble_eq_true rfl)) dX3_told_2 ⟨Nat.le_of_ble_eq_true rfl, Nat.le_of_ble_eq_true rfl⟩) hS hP (fun H locs hw_2 hP hS => ?_)
  refine lv_iload_n hx hb dX3_told_5 rfl (lv_at hl 2 rfl) ?_
  have t_6 : y1.toInt = w := by rw [hwv]; exact iI_t (by omega)
  rcases (show w = 0 ∨ w = 1 ∨ w = 2 ∨ w = 3 ∨ w = 4 ∨ (w < 0 ∨ 4 < w) by omega) with c_6 | c_6 | c_6 | c_6 | c_6 | c_6
  · refine lv_tableIn (off := 34) (tgt := 40) hx hb dX3_told_6 (by rw [t_6]; omega) (by rw [t_6]; omega) (by rw [t_6, c_6]; rfl) (by decide) ?_
    refine lv_aload_n hx hb dX3_told_40 rfl (lv_at hl 0 rfl) ?_
    refine va_get (D := D) (ci := 3) (v := .ref e0) (C := RX3) (T := TX3) (N := 5) hx hb hts iX3 hown hK hP 0 rfl rfl 0 (by decide) (hts _ qw99) (fun _ h9 => h9) rfl dX3_told_41 ?_
    refine lv_iload_n hx hb dX3_told_44 rfl (lv_at hl 1 rfl) ?_
    refine cr_i (va_runV (As := [.int x0]) (rest := []) ⟨hx, hb, hml, hown, hts⟩ (k_X0_heatOf l D cI cZ cJ cK _ e0 x0 eh eo ev er el fh n x (hn) (hn4) (hxv.trans (congrArg iI (by omega))) (hxn)) (cwV 1 hts (gV qw379 qw236 qw237 qw11 qw238) rfl rfl rfl (by decide +kernel) ⟨Nat.le_of_ble_eq_true rfl, Nat.le_of_ble_eq_true rfl⟩) (pv (ci := 0) (r := (RX0, TX0, 5)) (q0 := 1) hP hD hK hT hZ hS [1, 2] rfl rfl rfl rfl) rfl rfl hl.1 rfl (lv_room (Nat.le_of_ble_eq_true rfl)) dX3_told_45 ⟨Nat.le_of_ble_eq_true rfl, Nat.le_of_ble_eq_true rfl⟩) hS hP (fun x_45 H locs hw_45 hP hS => ?_)
    have hw_45 : (x_45 = fh x) := hw_45
    have v_45 := hw_45
    exact W.iret (v := x_45) hx hb hr (fun t ht hW => ⟨⟨x_45, (), rfl, v_45.trans (hxH.1.trans (hto.1 c_6).symm), trivial⟩, hS.F ht⟩) hS.2.2 dX3_told_48
  · refine lv_tableIn (off := 43) (tgt := 49) hx hb dX3_told_6 (by rw [t_6]; omega) (by rw [t_6]; omega) (by rw [t_6, c_6]; rfl) (by decide) ?_
    refine lv_aload_n hx hb dX3_told_49 rfl (lv_at hl 0 rfl) ?_
    refine va_get (D := D) (ci := 3) (v := .ref e0) (C := RX3) (T := TX3) (N := 5) hx hb hts iX3 hown hK hP 0 rfl rfl 0 (by decide) (hts _ qw99) (fun _ h9 => h9) rfl dX3_told_50 ?_
    refine lv_iload_n hx hb dX3_told_53 rfl (lv_at hl 1 rfl) ?_
    refine cr_i (va_runV (As := [.int x0]) (rest := []) ⟨hx, hb, hml, hown, hts⟩ (k_X0_homeOf l D cI cZ cJ cK _ e0 x0 eh eo ev er el fo n x (hn) (hn4) (hxv.trans (congrArg iI (by omega))) (hxn)) (cwV 1 hts (gV qw380 qw381 qw382 qw11 qw383) rfl rfl rfl (by decide +kernel) ⟨Nat.le_of_ble_eq_true rfl, Nat.le_of_ble_eq_true rfl⟩) (pv (ci := 0) (r := (RX0, TX0, 5)) (q0 := 1) hP hD hK hT hZ hS [1, 3] rfl rfl rfl rfl) rfl rfl hl.1 rfl (lv_room (Nat.le_of_ble_eq_true rfl)) dX3_told_54 ⟨Nat.le_of_ble_eq_true rfl, Nat.le_of_ble_eq_true rfl⟩) hS hP (fun x_54 H locs hw_54 hP hS => ?_)
    have hw_54 : (x_54 = fo x) := hw_54
    have v_54 := hw_54
    exact W.iret (v := x_54) hx hb hr (fun t ht hW => ⟨⟨x_54, (), rfl, v_54.trans (hfo.trans (hto.2.1 c_6).symm), trivial⟩, hS.F ht⟩) hS.2.2 dX3_told_57
  · refine lv_tableIn (off := 52) (tgt := 58) hx hb dX3_told_6 (by rw [t_6]; omega) (by rw [t_6]; omega) (by rw [t_6, c_6]; rfl) (by decide) ?_
    refine lv_aload_n hx hb dX3_told_58 rfl (lv_at hl 0 rfl) ?_
    refine lv_iload_n hx hb dX3_told_59 rfl (lv_at hl 1 rfl) ?_
    refine cr_i (va_runV (As := [.int x0]) (rest := []) ⟨hx, hb, hml, hown, hts⟩ (k_X3_bucketWith_0 l D cI cZ cJ cK _ r0 x0 e0 z0 o0 t0 qn eh eo ev er el fh fo zn zw zv zs zl zm zk on ow ov os ol om ok n x lo0 lo1 Hh a (hem) (hz) (ho) (hxv.trans (congrArg iI (by omega))) (hxn) (hfo) (ha)) (cwV 1 hts (gV qw384 qw386 qw6 qw10 qw387) rfl rfl rfl (by decide +kernel) ⟨Nat.le_of_ble_eq_true rfl, Nat.le_of_ble_eq_true rfl⟩) (pv (ci := 3) (r := (RX3, TX3, 5)) (q0 := 0) hP hD hK hT hZ hS [0, 1, 2, 3, 6, 7] rfl rfl rfl rfl) rfl rfl hl.1 rfl (lv_room (Nat.le_of_ble_eq_true rfl)) dX3_told_60 ⟨Nat.le_of_ble_eq_true rfl, Nat.le_of_ble_eq_true rfl⟩) hS hP (fun x_60 H locs hw_60 hP hS => ?_)
    have hw_60 : (x_60 = iI (bkA a lo0 lo1 (Hh x))) := hw_60
    have v_60 := hw_60
    exact W.iret (v := x_60) hx hb hr (fun t ht hW => ⟨⟨x_60, (), rfl, v_60.trans (hto.2.2.1 c_6).symm, trivial⟩, hS.F ht⟩) hS.2.2 dX3_told_63
  · refine lv_tableIn (off := 58) (tgt := 64) hx hb dX3_told_6 (by rw [t_6]; omega) (by rw [t_6]; omega) (by rw [t_6, c_6]; rfl) (by decide) ?_
    refine lv_aload_n hx hb dX3_told_64 rfl (lv_at hl 0 rfl) ?_
    refine va_get (D := D) (ci := 3) (v := .ref e0) (C := RX3) (T := TX3) (N := 5) hx hb hts iX3 hown hK hP 0 rfl rfl 0 (by decide) (hts _ qw99) (fun _ h9 => h9) rfl dX3_told_65 ?_
    refine lv_iload_n hx hb dX3_told_68 rfl (lv_at hl 1 rfl) ?_
    refine cr_i (va_runV (As := [.int x0]) (rest := []) ⟨hx, hb, hml, hown, hts⟩ (k_X0_movedOf l D cI cZ cJ cK _ e0 x0 eh eo ev er el fm n x (hn) (hn4) (hxv.trans (congrArg iI (by omega))) (hxn)) (cwV 1 hts (gV qw388 qw389 qw390 qw11 qw391) rfl rfl rfl (by decide +kernel) ⟨Nat.le_of_ble_eq_true rfl, Nat.le_of_ble_eq_true rfl⟩) (pv (ci := 0) (r := (RX0, TX0, 5)) (q0 := 1) hP hD hK hT hZ hS [1, 4] rfl rfl rfl rfl) rfl rfl hl.1 rfl (lv_room (Nat.le_of_ble_eq_true rfl)) dX3_told_69 ⟨Nat.le_of_ble_eq_true rfl, Nat.le_of_ble_eq_true rfl⟩) hS hP (fun x_69 H locs hw_69 hP hS => ?_)
    have hw_69 : (x_69 = fm x) := hw_69
    have v_69 := hw_69
    exact W.iret (v := x_69) hx hb hr (fun t ht hW => ⟨⟨x_69, (), rfl, v_69.trans (hto.2.2.2.1 c_6).symm, trivial⟩, hS.F ht⟩) hS.2.2 dX3_told_72
  · refine lv_tableIn (off := 67) (tgt := 73) hx hb dX3_told_6 (by rw [t_6]; omega) (by rw [t_6]; omega) (by rw [t_6, c_6]; rfl) (by decide) ?_
    refine lv_aload_n hx hb dX3_told_73 rfl (lv_at hl 0 rfl) ?_
    refine va_get (D := D) (ci := 3) (v := .ref e0) (C := RX3) (T := TX3) (N := 5) hx hb hts iX3 hown hK hP 0 rfl rfl 0 (by decide) (hts _ qw99) (fun _ h9 => h9) rfl dX3_told_74 ?_
    refine lv_iload_n hx hb dX3_told_77 rfl (lv_at hl 1 rfl) ?_
    refine cr_i (va_runV (As := [.int x0]) (rest := []) ⟨hx, hb, hml, hown, hts⟩ (k_X0_isRaked l D cI cZ cJ cK _ e0 x0 eh eo ev er el fr n x k (hn) (hn4) (hxv.trans (congrArg iI (by omega))) (hxn) (hfr) (hk)) (cwV 1 hts (gV qw392 qw393 qw394 qw11 qw395) rfl rfl rfl (by decide +kernel) ⟨Nat.le_of_ble_eq_true rfl, Nat.le_of_ble_eq_true rfl⟩) (pv (ci := 0) (r := (RX0, TX0, 5)) (q0 := 1) hP hD hK hT hZ hS [1, 5] rfl rfl rfl rfl) rfl rfl hl.1 rfl (lv_room (Nat.le_of_ble_eq_true rfl)) dX3_told_78 ⟨Nat.le_of_ble_eq_true rfl, Nat.le_of_ble_eq_true rfl⟩) hS hP (fun x_78 H locs hw_78 hP hS => ?_)
    have hw_78 : (x_78 = iI (k)) := hw_78
    have v_78 := hw_78
    refine lz_if_eq (tgt := 88) hx hb v_78 (by omega) dX3_told_81 (by decide) (fun c_81 => ?_) (fun c_81 => ?_)
    · refine lz_iconst hx hb dX3_told_88 (fun x_88 v_88 => ?_)
      exact W.iret (v := x_88) hx hb hr (fun t ht hW => ⟨⟨x_88, (), rfl, by first | exact v_84.trans ((congrArg iI (by omega)).trans (hto.2.2.2.2 c_6).symm) | exact v_88.trans ((congrArg iI (by omega)).trans (hto.2.2.2.2 c_6).symm), trivial⟩, hS.F ht⟩) hS.2.2 dX3_told_89
    · refine lz_iconst hx hb dX3_told_84 (fun x_84 v_84 => ?_)
      refine lv_goto (tgt := 89) hx hb dX3_told_85 (by decide) ?_
      exact W.iret (v := x_84) hx hb hr (fun t ht hW => ⟨⟨x_84, (), rfl, by first | exact v_84.trans ((congrArg iI (by omega)).trans (hto.2.2.2.2 c_6).symm) | exact v_88.trans ((congrArg iI (by omega)).trans (hto.2.2.2.2 c_6).symm), trivial⟩, hS.F ht⟩) hS.2.2 dX3_told_89
  · exfalso; omega
set_option maxHeartbeats 4000000 in
set_option maxRecDepth 100000 in
theorem k_X3_told_1 (l : Launch) (D : va_G) (cI cZ cJ cK : ClassId) (hz9 : Nat) (r0 : Nat) (x0 : Int32) (y1 : Int32) (e0 : Nat) (z0 : Nat) (o0 : Nat) (t0 : Nat) (qn : Int32) (eh : Nat) (eo : Nat) (ev : Nat) (er : Nat) (el : Int32) (fh : Nat → Int32) (fo : Nat → Int32) (fm : Nat → Int32) (fr : Nat → Int32) (zn : Int32) (zw : Nat) (zv : Nat) (zs : Nat) (zl : Int32) (zm : Int32) (zk : Int32) (on : Int32) (ow : Nat) (ov : Nat) (os : Nat) (ol : Int32) (om : Int32) (ok : Int32) (n x lo0 lo1 : Nat) (Hh : Nat → Nat) (a k w : Int) (hem : embIs el fh n Hh) (hz : zl = iI ↑lo0 ∧ lo0 < 1024) (ho : ol = iI ↑lo1 ∧ lo1 < 1024) (hxv : x0 = iI ↑x) (hxn : x < n) (hfo : fo x = iI a) (ha : a = 1) (hfr : fr x = iI k) (hk : k = 0 ∨ k = 1) (hwv : y1 = iI w) (hwo : 0 ≤ w ∧ w < 5) : Met l yX3_told (ws_ yX3_told cX3_told 3 (Option.some .int)) ({ frames := 3, cells := 0, slots := 0, locals := 64 }) (va_Pc [.ref r0, .int x0, .int y1] (wPre D cI cZ cJ cK hz9 [(r0, .inr (3, [.ref e0, .ref z0, .ref o0, .ref t0, .int qn])), (e0, .inr (0, [.ref eh, .ref eo, .ref ev, .ref er, .int el])), (eh, .inl (cI, 40, .inl fh)), (eo, .inl (cI, 40, .inl fo)), (ev, .inl (cI, 40, .inl fm)), (er, .inl (cZ, 40, .inl fr)), (z0, .inr (1, [.ref e0, .int zn, .ref zw, .ref zv, .ref zs, .int zl, .int zm, .int zk])), (o0, .inr (1, [.ref e0, .int on, .ref ow, .ref ov, .ref os, .int ol, .int om, .int ok]))])) (va_Qi (fun r (_ : Unit) => (r = toV (Hh x) a (bkA a lo0 lo1 (Hh x)) (fm x) k w)) (fun _ _ => True) (fun _ => False)) 0 0 (fun _ => False) := by
  refine Met.ofW (cc := cX3_told) (maxL := 3) (ret := (Option.some .int)) (by decide) rfl ?_
  intro p e s m args below meth c s₁ hBd hml hv
  obtain ⟨rfl, hsz, hP, hD, hK, hT, hZ⟩ := hv
  have hx := hBd.exec
  have hb := hBd.bytes
  have hr := hBd.returns
  have hts : ∀ w ∈ lw_G, w.before _ s = true := fun w h => atoms_spec (ws := (ws_ yX3_told cX3_told 3 (Option.some .int))) hBd.pre w (List.mem_cons_of_mem _ h)
  have hown : s.vm.findClass RX3 = some m.cls := findClass_of_methodNamed hBd.named
  have hlocks := hBd.notSynchronized
  subst hsz
  have hS : va_S (fun _ => False) s.heap s.heap [] := va_S.rf
  have hl := lv_entry ([.ref r0, .int x0, .int y1]) (n := 3) (Nat.le_of_ble_eq_true rfl)
  rw [lg_entry_eq]
  generalize (lg_sl ([.ref r0, .int x0, .int y1]) ++ List.replicate (3 - (lg_sl ([.ref r0, .int x0, .int y1])).length) Slot.unset).toArray = ls at hl ⊢
  have hl : lv_has ls 3 [(0, .ref r0), (1, .int x0), (2, .int y1)] := hl
  have hP : va_P D vwCl [(r0, .inr (3, [.ref e0, .ref z0, .ref o0, .ref t0, .int qn])), (e0, .inr (0, [.ref eh, .ref eo, .ref ev, .ref er, .int el])), (eh, .inl (cI, 40, .inl fh)), (eo, .inl (cI, 40, .inl fo)), (ev, .inl (cI, 40, .inl fm)), (er, .inl (cZ, 40, .inl fr)), (z0, .inr (1, [.ref e0, .int zn, .ref zw, .ref zv, .ref zs, .int zl, .int zm, .int zk])), (o0, .inr (1, [.ref e0, .int on, .ref ow, .ref ov, .ref os, .int ol, .int om, .int ok]))] s.heap := hP
  obtain ⟨hn, hn4, hfh⟩ := id hem
  have hxH := hfh x hxn
  have hto := toV_n (h := Hh x) (a := a) (b := bkA a lo0 lo1 (Hh x)) (m := fm x) (k := k) (w := w)
  refine lv_aload_n hx hb dX3_told_0 rfl (lv_at hl 0 rfl) ?_
  refine lv_iload_n hx hb dX3_told_1 rfl (lv_at hl 1 rfl) ?_
  refine cr_v (va_runV (As := [.int x0]) (rest := []) ⟨hx, hb, hml, hown, hts⟩ (k_X3_refuseUnlit l D cI cZ cJ cK _ r0 x0 e0 z0 o0 t0 qn eh eo ev er el n x (hn) (hn4) (hxv.trans (congrArg iI (by omega))) (hxn)) (cwV 1 hts (gV qw373 qw375 qw5 qw10 qw376) rfl rfl rfl (by decide +kernel) ⟨Nat.le_of_ble_eq_true rfl, Nat.le_of_ble_eq_true rfl⟩) (pv (ci := 3) (r := (RX3, TX3, 5)) (q0 := 0) hP hD hK hT hZ hS [0, 1] rfl rfl rfl rfl) rfl rfl hl.1 rfl (lv_room (Nat.le_of_ble_eq_true rfl)) dX3_told_2 ⟨Nat.le_of_ble_eq_true rfl, Nat.le_of_ble_eq_true rfl⟩) hS hP (fun H locs hw_2 hP hS => ?_)
  refine lv_iload_n hx hb dX3_told_5 rfl (lv_at hl 2 rfl) ?_
  have t_6 : y1.toInt = w := by rw [hwv]; exact iI_t (by omega)
  rcases (show w = 0 ∨ w = 1 ∨ w = 2 ∨ w = 3 ∨ w = 4 ∨ (w < 0 ∨ 4 < w) by omega) with c_6 | c_6 | c_6 | c_6 | c_6 | c_6
  · refine lv_tableIn (off := 34) (tgt := 40) hx hb dX3_told_6 (by rw [t_6]; omega) (by rw [t_6]; omega) (by rw [t_6, c_6]; rfl) (by decide) ?_
    refine lv_aload_n hx hb dX3_told_40 rfl (lv_at hl 0 rfl) ?_
    refine va_get (D := D) (ci := 3) (v := .ref e0) (C := RX3) (T := TX3) (N := 5) hx hb hts iX3 hown hK hP 0 rfl rfl 0 (by decide) (hts _ qw99) (fun _ h9 => h9) rfl dX3_told_41 ?_
    refine lv_iload_n hx hb dX3_told_44 rfl (lv_at hl 1 rfl) ?_
    refine cr_i (va_runV (As := [.int x0]) (rest := []) ⟨hx, hb, hml, hown, hts⟩ (k_X0_heatOf l D cI cZ cJ cK _ e0 x0 eh eo ev er el fh n x (hn) (hn4) (hxv.trans (congrArg iI (by omega))) (hxn)) (cwV 1 hts (gV qw379 qw236 qw237 qw11 qw238) rfl rfl rfl (by decide +kernel) ⟨Nat.le_of_ble_eq_true rfl, Nat.le_of_ble_eq_true rfl⟩) (pv (ci := 0) (r := (RX0, TX0, 5)) (q0 := 1) hP hD hK hT hZ hS [1, 2] rfl rfl rfl rfl) rfl rfl hl.1 rfl (lv_room (Nat.le_of_ble_eq_true rfl)) dX3_told_45 ⟨Nat.le_of_ble_eq_true rfl, Nat.le_of_ble_eq_true rfl⟩) hS hP (fun x_45 H locs hw_45 hP hS => ?_)
    have hw_45 : (x_45 = fh x) := hw_45
    have v_45 := hw_45
    exact W.iret (v := x_45) hx hb hr (fun t ht hW => ⟨⟨x_45, (), rfl, v_45.trans (hxH.1.trans (hto.1 c_6).symm), trivial⟩, hS.F ht⟩) hS.2.2 dX3_told_48
  · refine lv_tableIn (off := 43) (tgt := 49) hx hb dX3_told_6 (by rw [t_6]; omega) (by rw [t_6]; omega) (by rw [t_6, c_6]; rfl) (by decide) ?_
    refine lv_aload_n hx hb dX3_told_49 rfl (lv_at hl 0 rfl) ?_
    refine va_get (D := D) (ci := 3) (v := .ref e0) (C := RX3) (T := TX3) (N := 5) hx hb hts iX3 hown hK hP 0 rfl rfl 0 (by decide) (hts _ qw99) (fun _ h9 => h9) rfl dX3_told_50 ?_
    refine lv_iload_n hx hb dX3_told_53 rfl (lv_at hl 1 rfl) ?_
    refine cr_i (va_runV (As := [.int x0]) (rest := []) ⟨hx, hb, hml, hown, hts⟩ (k_X0_homeOf l D cI cZ cJ cK _ e0 x0 eh eo ev er el fo n x (hn) (hn4) (hxv.trans (congrArg iI (by omega))) (hxn)) (cwV 1 hts (gV qw380 qw381 qw382 qw11 qw383) rfl rfl rfl (by decide +kernel) ⟨Nat.le_of_ble_eq_true rfl, Nat.le_of_ble_eq_true rfl⟩) (pv (ci := 0) (r := (RX0, TX0, 5)) (q0 := 1) hP hD hK hT hZ hS [1, 3] rfl rfl rfl rfl) rfl rfl hl.1 rfl (lv_room (Nat.le_of_ble_eq_true rfl)) dX3_told_54 ⟨Nat.le_of_ble_eq_true rfl, Nat.le_of_ble_eq_true rfl⟩) hS hP (fun x_54 H locs hw_54 hP hS => ?_)
    have hw_54 : (x_54 = fo x) := hw_54
    have v_54 := hw_54
    exact W.iret (v := x_54) hx hb hr (fun t ht hW => ⟨⟨x_54, (), rfl, v_54.trans (hfo.trans (hto.2.1 c_6).symm), trivial⟩, hS.F ht⟩) hS.2.2 dX3_told_57
  · refine lv_tableIn (off := 52) (tgt := 58) hx hb dX3_told_6 (by rw [t_6]; omega) (by rw [t_6]; omega) (by rw [t_6, c_6]; rfl) (by decide) ?_
    refine lv_aload_n hx hb dX3_told_58 rfl (lv_at hl 0 rfl) ?_
    refine lv_iload_n hx hb dX3_told_59 rfl (lv_at hl 1 rfl) ?_
    refine cr_i (va_runV (As := [.int x0]) (rest := []) ⟨hx, hb, hml, hown, hts⟩ (k_X3_bucketWith_1 l D cI cZ cJ cK _ r0 x0 e0 z0 o0 t0 qn eh eo ev er el fh fo zn zw zv zs zl zm zk on ow ov os ol om ok n x lo0 lo1 Hh a (hem) (hz) (ho) (hxv.trans (congrArg iI (by omega))) (hxn) (hfo) (ha)) (cwV 1 hts (gV qw384 qw386 qw6 qw10 qw387) rfl rfl rfl (by decide +kernel) ⟨Nat.le_of_ble_eq_true rfl, Nat.le_of_ble_eq_true rfl⟩) (pv (ci := 3) (r := (RX3, TX3, 5)) (q0 := 0) hP hD hK hT hZ hS [0, 1, 2, 3, 6, 7] rfl rfl rfl rfl) rfl rfl hl.1 rfl (lv_room (Nat.le_of_ble_eq_true rfl)) dX3_told_60 ⟨Nat.le_of_ble_eq_true rfl, Nat.le_of_ble_eq_true rfl⟩) hS hP (fun x_60 H locs hw_60 hP hS => ?_)
    have hw_60 : (x_60 = iI (bkA a lo0 lo1 (Hh x))) := hw_60
    have v_60 := hw_60
    exact W.iret (v := x_60) hx hb hr (fun t ht hW => ⟨⟨x_60, (), rfl, v_60.trans (hto.2.2.1 c_6).symm, trivial⟩, hS.F ht⟩) hS.2.2 dX3_told_63
  · refine lv_tableIn (off := 58) (tgt := 64) hx hb dX3_told_6 (by rw [t_6]; omega) (by rw [t_6]; omega) (by rw [t_6, c_6]; rfl) (by decide) ?_
    refine lv_aload_n hx hb dX3_told_64 rfl (lv_at hl 0 rfl) ?_
    refine va_get (D := D) (ci := 3) (v := .ref e0) (C := RX3) (T := TX3) (N := 5) hx hb hts iX3 hown hK hP 0 rfl rfl 0 (by decide) (hts _ qw99) (fun _ h9 => h9) rfl dX3_told_65 ?_
    refine lv_iload_n hx hb dX3_told_68 rfl (lv_at hl 1 rfl) ?_
    refine cr_i (va_runV (As := [.int x0]) (rest := []) ⟨hx, hb, hml, hown, hts⟩ (k_X0_movedOf l D cI cZ cJ cK _ e0 x0 eh eo ev er el fm n x (hn) (hn4) (hxv.trans (congrArg iI (by omega))) (hxn)) (cwV 1 hts (gV qw388 qw389 qw390 qw11 qw391) rfl rfl rfl (by decide +kernel) ⟨Nat.le_of_ble_eq_true rfl, Nat.le_of_ble_eq_true rfl⟩) (pv (ci := 0) (r := (RX0, TX0, 5)) (q0 := 1) hP hD hK hT hZ hS [1, 4] rfl rfl rfl rfl) rfl rfl hl.1 rfl (lv_room (Nat.le_of_ble_eq_true rfl)) dX3_told_69 ⟨Nat.le_of_ble_eq_true rfl, Nat.le_of_ble_eq_true rfl⟩) hS hP (fun x_69 H locs hw_69 hP hS => ?_)
    have hw_69 : (x_69 = fm x) := hw_69
    have v_69 := hw_69
    exact W.iret (v := x_69) hx hb hr (fun t ht hW => ⟨⟨x_69, (), rfl, v_69.trans (hto.2.2.2.1 c_6).symm, trivial⟩, hS.F ht⟩) hS.2.2 dX3_told_72
  · refine lv_tableIn (off := 67) (tgt := 73) hx hb dX3_told_6 (by rw [t_6]; omega) (by rw [t_6]; omega) (by rw [t_6, c_6]; rfl) (by decide) ?_
    refine lv_aload_n hx hb dX3_told_73 rfl (lv_at hl 0 rfl) ?_
    refine va_get (D := D) (ci := 3) (v := .ref e0) (C := RX3) (T := TX3) (N := 5) hx hb hts iX3 hown hK hP 0 rfl rfl 0 (by decide) (hts _ qw99) (fun _ h9 => h9) rfl dX3_told_74 ?_
    refine lv_iload_n hx hb dX3_told_77 rfl (lv_at hl 1 rfl) ?_
    refine cr_i (va_runV (As := [.int x0]) (rest := []) ⟨hx, hb, hml, hown, hts⟩ (k_X0_isRaked l D cI cZ cJ cK _ e0 x0 eh eo ev er el fr n x k (hn) (hn4) (hxv.trans (congrArg iI (by omega))) (hxn) (hfr) (hk)) (cwV 1 hts (gV qw392 qw393 qw394 qw11 qw395) rfl rfl rfl (by decide +kernel) ⟨Nat.le_of_ble_eq_true rfl, Nat.le_of_ble_eq_true rfl⟩) (pv (ci := 0) (r := (RX0, TX0, 5)) (q0 := 1) hP hD hK hT hZ hS [1, 5] rfl rfl rfl rfl) rfl rfl hl.1 rfl (lv_room (Nat.le_of_ble_eq_true rfl)) dX3_told_78 ⟨Nat.le_of_ble_eq_true rfl, Nat.le_of_ble_eq_true rfl⟩) hS hP (fun x_78 H locs hw_78 hP hS => ?_)
    have hw_78 : (x_78 = iI (k)) := hw_78
    have v_78 := hw_78
    refine lz_if_eq (tgt := 88) hx hb v_78 (by omega) dX3_told_81 (by decide) (fun c_81 => ?_) (fun c_81 => ?_)
    · refine lz_iconst hx hb dX3_told_88 (fun x_88 v_88 => ?_)
      exact W.iret (v := x_88) hx hb hr (fun t ht hW => ⟨⟨x_88, (), rfl, by first | exact v_84.trans ((congrArg iI (by omega)).trans (hto.2.2.2.2 c_6).symm) | exact v_88.trans ((congrArg iI (by omega)).trans (hto.2.2.2.2 c_6).symm), trivial⟩, hS.F ht⟩) hS.2.2 dX3_told_89
    · refine lz_iconst hx hb dX3_told_84 (fun x_84 v_84 => ?_)
      refine lv_goto (tgt := 89) hx hb dX3_told_85 (by decide) ?_
      exact W.iret (v := x_84) hx hb hr (fun t ht hW => ⟨⟨x_84, (), rfl, by first | exact v_84.trans ((congrArg iI (by omega)).trans (hto.2.2.2.2 c_6).symm) | exact v_88.trans ((congrArg iI (by omega)).trans (hto.2.2.2.2 c_6).symm), trivial⟩, hS.F ht⟩) hS.2.2 dX3_told_89
  · exfalso; omega
set_option maxHeartbeats 4000000 in
set_option maxRecDepth 100000 in
theorem k_X3_told_g (l : Launch) (D : va_G) (cI cZ cJ cK : ClassId) (hz9 : Nat) (r0 : Nat) (x0 : Int32) (y1 : Int32) (e0 : Nat) (z0 : Nat) (o0 : Nat) (t0 : Nat) (qn : Int32) (eh : Nat) (eo : Nat) (ev : Nat) (er : Nat) (el : Int32) (fh : Nat → Int32) (fo : Nat → Int32) (fm : Nat → Int32) (fr : Nat → Int32) (zn : Int32) (zw : Nat) (zv : Nat) (zs : Nat) (zl : Int32) (zm : Int32) (zk : Int32) (on : Int32) (ow : Nat) (ov : Nat) (os : Nat) (ol : Int32) (om : Int32) (ok : Int32) (n x lo0 lo1 : Nat) (Hh : Nat → Nat) (a k w : Int) (hem : embIs el fh n Hh) (hz : zl = iI ↑lo0 ∧ lo0 < 1024) (ho : ol = iI ↑lo1 ∧ lo1 < 1024) (hxv : x0 = iI ↑x) (hxn : x < n) (hfo : fo x = iI a) (ha : a = -1) (hfr : fr x = iI k) (hk : k = 0 ∨ k = 1) (hwv : y1 = iI w) (hwo : 0 ≤ w ∧ w < 5) : Met l yX3_told (ws_ yX3_told cX3_told 3 (Option.some .int)) ({ frames := 3, cells := 0, slots := 0, locals := 64 }) (va_Pc [.ref r0, .int x0, .int y1] (wPre D cI cZ cJ cK hz9 [(r0, .inr (3, [.ref e0, .ref z0, .ref o0, .ref t0, .int qn])), (e0, .inr (0, [.ref eh, .ref eo, .ref ev, .ref er, .int el])), (eh, .inl (cI, 40, .inl fh)), (eo, .inl (cI, 40, .inl fo)), (ev, .inl (cI, 40, .inl fm)), (er, .inl (cZ, 40, .inl fr)), (z0, .inr (1, [.ref e0, .int zn, .ref zw, .ref zv, .ref zs, .int zl, .int zm, .int zk])), (o0, .inr (1, [.ref e0, .int on, .ref ow, .ref ov, .ref os, .int ol, .int om, .int ok]))])) (va_Qi (fun r (_ : Unit) => (r = toV (Hh x) a (bkA a lo0 lo1 (Hh x)) (fm x) k w)) (fun _ _ => True) (fun _ => False)) 0 0 (fun _ => False) := by
  refine Met.ofW (cc := cX3_told) (maxL := 3) (ret := (Option.some .int)) (by decide) rfl ?_
  intro p e s m args below meth c s₁ hBd hml hv
  obtain ⟨rfl, hsz, hP, hD, hK, hT, hZ⟩ := hv
  have hx := hBd.exec
  have hb := hBd.bytes
  have hr := hBd.returns
  have hts : ∀ w ∈ lw_G, w.before _ s = true := fun w h => atoms_spec (ws := (ws_ yX3_told cX3_told 3 (Option.some .int))) hBd.pre w (List.mem_cons_of_mem _ h)
  have hown : s.vm.findClass RX3 = some m.cls := findClass_of_methodNamed hBd.named
  have hlocks := hBd.notSynchronized
  subst hsz
  have hS : va_S (fun _ => False) s.heap s.heap [] := va_S.rf
  have hl := lv_entry ([.ref r0, .int x0, .int y1]) (n := 3) (Nat.le_of_ble_eq_true rfl)
  rw [lg_entry_eq]
  generalize (lg_sl ([.ref r0, .int x0, .int y1]) ++ List.replicate (3 - (lg_sl ([.ref r0, .int x0, .int y1])).length) Slot.unset).toArray = ls at hl ⊢
  have hl : lv_has ls 3 [(0, .ref r0), (1, .int x0), (2, .int y1)] := hl
  have hP : va_P D vwCl [(r0, .inr (3, [.ref e0, .ref z0, .ref o0, .ref t0, .int qn])), (e0, .inr (0, [.ref eh, .ref eo, .ref ev, .ref er, .int el])), (eh, .inl (cI, 40, .inl fh)), (eo, .inl (cI, 40, .inl fo)), (ev, .inl (cI, 40, .inl fm)), (er, .inl (cZ, 40, .inl fr)), (z0, .inr (1, [.ref e0, .int zn, .ref zw, .ref zv, .ref zs, .int zl, .int zm, .int zk])), (o0, .inr (1, [.ref e0, .int on, .ref ow, .ref ov, .ref os, .int ol, .int om, .int ok]))] s.heap := hP
  obtain ⟨hn, hn4, hfh⟩ := id hem
  have hxH := hfh x hxn
  have hto := toV_n (h := Hh x) (a := a) (b := bkA a lo0 lo1 (Hh x)) (m := fm x) (k := k) (w := w)
  refine lv_aload_n hx hb dX3_told_0 rfl (lv_at hl 0 rfl) ?_
  refine lv_iload_n hx hb dX3_told_1 rfl (lv_at hl 1 rfl) ?_
  refine cr_v (va_runV (As := [.int x0]) (rest := []) ⟨hx, hb, hml, hown, hts⟩ (k_X3_refuseUnlit l D cI cZ cJ cK _ r0 x0 e0 z0 o0 t0 qn eh eo ev er el n x (hn) (hn4) (hxv.trans (congrArg iI (by omega))) (hxn)) (cwV 1 hts (gV qw373 qw375 qw5 qw10 qw376) rfl rfl rfl (by decide +kernel) ⟨Nat.le_of_ble_eq_true rfl, Nat.le_of_ble_eq_true rfl⟩) (pv (ci := 3) (r := (RX3, TX3, 5)) (q0 := 0) hP hD hK hT hZ hS [0, 1] rfl rfl rfl rfl) rfl rfl hl.1 rfl (lv_room (Nat.le_of_ble_eq_true rfl)) dX3_told_2 ⟨Nat.le_of_ble_eq_true rfl, Nat.le_of_ble_eq_true rfl⟩) hS hP (fun H locs hw_2 hP hS => ?_)
  refine lv_iload_n hx hb dX3_told_5 rfl (lv_at hl 2 rfl) ?_
  have t_6 : y1.toInt = w := by rw [hwv]; exact iI_t (by omega)
  rcases (show w = 0 ∨ w = 1 ∨ w = 2 ∨ w = 3 ∨ w = 4 ∨ (w < 0 ∨ 4 < w) by omega) with c_6 | c_6 | c_6 | c_6 | c_6 | c_6
  · refine lv_tableIn (off := 34) (tgt := 40) hx hb dX3_told_6 (by rw [t_6]; omega) (by rw [t_6]; omega) (by rw [t_6, c_6]; rfl) (by decide) ?_
    refine lv_aload_n hx hb dX3_told_40 rfl (lv_at hl 0 rfl) ?_
    refine va_get (D := D) (ci := 3) (v := .ref e0) (C := RX3) (T := TX3) (N := 5) hx hb hts iX3 hown hK hP 0 rfl rfl 0 (by decide) (hts _ qw99) (fun _ h9 => h9) rfl dX3_told_41 ?_
    refine lv_iload_n hx hb dX3_told_44 rfl (lv_at hl 1 rfl) ?_
    refine cr_i (va_runV (As := [.int x0]) (rest := []) ⟨hx, hb, hml, hown, hts⟩ (k_X0_heatOf l D cI cZ cJ cK _ e0 x0 eh eo ev er el fh n x (hn) (hn4) (hxv.trans (congrArg iI (by omega))) (hxn)) (cwV 1 hts (gV qw379 qw236 qw237 qw11 qw238) rfl rfl rfl (by decide +kernel) ⟨Nat.le_of_ble_eq_true rfl, Nat.le_of_ble_eq_true rfl⟩) (pv (ci := 0) (r := (RX0, TX0, 5)) (q0 := 1) hP hD hK hT hZ hS [1, 2] rfl rfl rfl rfl) rfl rfl hl.1 rfl (lv_room (Nat.le_of_ble_eq_true rfl)) dX3_told_45 ⟨Nat.le_of_ble_eq_true rfl, Nat.le_of_ble_eq_true rfl⟩) hS hP (fun x_45 H locs hw_45 hP hS => ?_)
    have hw_45 : (x_45 = fh x) := hw_45
    have v_45 := hw_45
    exact W.iret (v := x_45) hx hb hr (fun t ht hW => ⟨⟨x_45, (), rfl, v_45.trans (hxH.1.trans (hto.1 c_6).symm), trivial⟩, hS.F ht⟩) hS.2.2 dX3_told_48
  · refine lv_tableIn (off := 43) (tgt := 49) hx hb dX3_told_6 (by rw [t_6]; omega) (by rw [t_6]; omega) (by rw [t_6, c_6]; rfl) (by decide) ?_
    refine lv_aload_n hx hb dX3_told_49 rfl (lv_at hl 0 rfl) ?_
    refine va_get (D := D) (ci := 3) (v := .ref e0) (C := RX3) (T := TX3) (N := 5) hx hb hts iX3 hown hK hP 0 rfl rfl 0 (by decide) (hts _ qw99) (fun _ h9 => h9) rfl dX3_told_50 ?_
    refine lv_iload_n hx hb dX3_told_53 rfl (lv_at hl 1 rfl) ?_
    refine cr_i (va_runV (As := [.int x0]) (rest := []) ⟨hx, hb, hml, hown, hts⟩ (k_X0_homeOf l D cI cZ cJ cK _ e0 x0 eh eo ev er el fo n x (hn) (hn4) (hxv.trans (congrArg iI (by omega))) (hxn)) (cwV 1 hts (gV qw380 qw381 qw382 qw11 qw383) rfl rfl rfl (by decide +kernel) ⟨Nat.le_of_ble_eq_true rfl, Nat.le_of_ble_eq_true rfl⟩) (pv (ci := 0) (r := (RX0, TX0, 5)) (q0 := 1) hP hD hK hT hZ hS [1, 3] rfl rfl rfl rfl) rfl rfl hl.1 rfl (lv_room (Nat.le_of_ble_eq_true rfl)) dX3_told_54 ⟨Nat.le_of_ble_eq_true rfl, Nat.le_of_ble_eq_true rfl⟩) hS hP (fun x_54 H locs hw_54 hP hS => ?_)
    have hw_54 : (x_54 = fo x) := hw_54
    have v_54 := hw_54
    exact W.iret (v := x_54) hx hb hr (fun t ht hW => ⟨⟨x_54, (), rfl, v_54.trans (hfo.trans (hto.2.1 c_6).symm), trivial⟩, hS.F ht⟩) hS.2.2 dX3_told_57
  · refine lv_tableIn (off := 52) (tgt := 58) hx hb dX3_told_6 (by rw [t_6]; omega) (by rw [t_6]; omega) (by rw [t_6, c_6]; rfl) (by decide) ?_
    refine lv_aload_n hx hb dX3_told_58 rfl (lv_at hl 0 rfl) ?_
    refine lv_iload_n hx hb dX3_told_59 rfl (lv_at hl 1 rfl) ?_
    refine cr_i (va_runV (As := [.int x0]) (rest := []) ⟨hx, hb, hml, hown, hts⟩ (k_X3_bucketWith_g l D cI cZ cJ cK _ r0 x0 e0 z0 o0 t0 qn eh eo ev er el fh fo zn zw zv zs zl zm zk on ow ov os ol om ok n x lo0 lo1 Hh a (hem) (hz) (ho) (hxv.trans (congrArg iI (by omega))) (hxn) (hfo) (ha)) (cwV 1 hts (gV qw384 qw386 qw6 qw10 qw387) rfl rfl rfl (by decide +kernel) ⟨Nat.le_of_ble_eq_true rfl, Nat.le_of_ble_eq_true rfl⟩) (pv (ci := 3) (r := (RX3, TX3, 5)) (q0 := 0) hP hD hK hT hZ hS [0, 1, 2, 3, 6, 7] rfl rfl rfl rfl) rfl rfl hl.1 rfl (lv_room (Nat.le_of_ble_eq_true rfl)) dX3_told_60 ⟨Nat.le_of_ble_eq_true rfl, Nat.le_of_ble_eq_true rfl⟩) hS hP (fun x_60 H locs hw_60 hP hS => ?_)
    have hw_60 : (x_60 = iI (bkA a lo0 lo1 (Hh x))) := hw_60
    have v_60 := hw_60
    exact W.iret (v := x_60) hx hb hr (fun t ht hW => ⟨⟨x_60, (), rfl, v_60.trans (hto.2.2.1 c_6).symm, trivial⟩, hS.F ht⟩) hS.2.2 dX3_told_63
  · refine lv_tableIn (off := 58) (tgt := 64) hx hb dX3_told_6 (by rw [t_6]; omega) (by rw [t_6]; omega) (by rw [t_6, c_6]; rfl) (by decide) ?_
    refine lv_aload_n hx hb dX3_told_64 rfl (lv_at hl 0 rfl) ?_
    refine va_get (D := D) (ci := 3) (v := .ref e0) (C := RX3) (T := TX3) (N := 5) hx hb hts iX3 hown hK hP 0 rfl rfl 0 (by decide) (hts _ qw99) (fun _ h9 => h9) rfl dX3_told_65 ?_
    refine lv_iload_n hx hb dX3_told_68 rfl (lv_at hl 1 rfl) ?_
    refine cr_i (va_runV (As := [.int x0]) (rest := []) ⟨hx, hb, hml, hown, hts⟩ (k_X0_movedOf l D cI cZ cJ cK _ e0 x0 eh eo ev er el fm n x (hn) (hn4) (hxv.trans (congrArg iI (by omega))) (hxn)) (cwV 1 hts (gV qw388 qw389 qw390 qw11 qw391) rfl rfl rfl (by decide +kernel) ⟨Nat.le_of_ble_eq_true rfl, Nat.le_of_ble_eq_true rfl⟩) (pv (ci := 0) (r := (RX0, TX0, 5)) (q0 := 1) hP hD hK hT hZ hS [1, 4] rfl rfl rfl rfl) rfl rfl hl.1 rfl (lv_room (Nat.le_of_ble_eq_true rfl)) dX3_told_69 ⟨Nat.le_of_ble_eq_true rfl, Nat.le_of_ble_eq_true rfl⟩) hS hP (fun x_69 H locs hw_69 hP hS => ?_)
    have hw_69 : (x_69 = fm x) := hw_69
    have v_69 := hw_69
    exact W.iret (v := x_69) hx hb hr (fun t ht hW => ⟨⟨x_69, (), rfl, v_69.trans (hto.2.2.2.1 c_6).symm, trivial⟩, hS.F ht⟩) hS.2.2 dX3_told_72
  · refine lv_tableIn (off := 67) (tgt := 73) hx hb dX3_told_6 (by rw [t_6]; omega) (by rw [t_6]; omega) (by rw [t_6, c_6]; rfl) (by decide) ?_
    refine lv_aload_n hx hb dX3_told_73 rfl (lv_at hl 0 rfl) ?_
    refine va_get (D := D) (ci := 3) (v := .ref e0) (C := RX3) (T := TX3) (N := 5) hx hb hts iX3 hown hK hP 0 rfl rfl 0 (by decide) (hts _ qw99) (fun _ h9 => h9) rfl dX3_told_74 ?_
    refine lv_iload_n hx hb dX3_told_77 rfl (lv_at hl 1 rfl) ?_
    refine cr_i (va_runV (As := [.int x0]) (rest := []) ⟨hx, hb, hml, hown, hts⟩ (k_X0_isRaked l D cI cZ cJ cK _ e0 x0 eh eo ev er el fr n x k (hn) (hn4) (hxv.trans (congrArg iI (by omega))) (hxn) (hfr) (hk)) (cwV 1 hts (gV qw392 qw393 qw394 qw11 qw395) rfl rfl rfl (by decide +kernel) ⟨Nat.le_of_ble_eq_true rfl, Nat.le_of_ble_eq_true rfl⟩) (pv (ci := 0) (r := (RX0, TX0, 5)) (q0 := 1) hP hD hK hT hZ hS [1, 5] rfl rfl rfl rfl) rfl rfl hl.1 rfl (lv_room (Nat.le_of_ble_eq_true rfl)) dX3_told_78 ⟨Nat.le_of_ble_eq_true rfl, Nat.le_of_ble_eq_true rfl⟩) hS hP (fun x_78 H locs hw_78 hP hS => ?_)
    have hw_78 : (x_78 = iI (k)) := hw_78
    have v_78 := hw_78
    refine lz_if_eq (tgt := 88) hx hb v_78 (by omega) dX3_told_81 (by decide) (fun c_81 => ?_) (fun c_81 => ?_)
    · refine lz_iconst hx hb dX3_told_88 (fun x_88 v_88 => ?_)
      exact W.iret (v := x_88) hx hb hr (fun t ht hW => ⟨⟨x_88, (), rfl, by first | exact v_84.trans ((congrArg iI (by omega)).trans (hto.2.2.2.2 c_6).symm) | exact v_88.trans ((congrArg iI (by omega)).trans (hto.2.2.2.2 c_6).symm), trivial⟩, hS.F ht⟩) hS.2.2 dX3_told_89
    · refine lz_iconst hx hb dX3_told_84 (fun x_84 v_84 => ?_)
      refine lv_goto (tgt := 89) hx hb dX3_told_85 (by decide) ?_
      exact W.iret (v := x_84) hx hb hr (fun t ht hW => ⟨⟨x_84, (), rfl, by first | exact v_84.trans ((congrArg iI (by omega)).trans (hto.2.2.2.2 c_6).symm) | exact v_88.trans ((congrArg iI (by omega)).trans (hto.2.2.2.2 c_6).symm), trivial⟩, hS.F ht⟩) hS.2.2 dX3_told_89
  · exfalso; omega
theorem k_X3_told_a (l : Launch) (D : va_G) (cI cZ cJ cK : ClassId) (hz9 : Nat) (r0 : Nat) (x0 : Int32) (y1 : Int32) (e0 : Nat) (z0 : Nat) (o0 : Nat) (t0 : Nat) (qn : Int32) (eh : Nat) (eo : Nat) (ev : Nat) (er : Nat) (el : Int32) (fh : Nat → Int32) (fo : Nat → Int32) (fm : Nat → Int32) (fr : Nat → Int32) (zn : Int32) (zw : Nat) (zv : Nat) (zs : Nat) (zl : Int32) (zm : Int32) (zk : Int32) (on : Int32) (ow : Nat) (ov : Nat) (os : Nat) (ol : Int32) (om : Int32) (ok : Int32) (n x lo0 lo1 : Nat) (Hh : Nat → Nat) (a k w : Int) (hem : embIs el fh n Hh) (hz : zl = iI ↑lo0 ∧ lo0 < 1024) (ho : ol = iI ↑lo1 ∧ lo1 < 1024) (hxv : x0 = iI ↑x) (hxn : x < n) (hfo : fo x = iI a) (ha : -1 ≤ a ∧ a ≤ 1) (hfr : fr x = iI k) (hk : k = 0 ∨ k = 1) (hwv : y1 = iI w) (hwo : 0 ≤ w ∧ w < 5) : Met l yX3_told (ws_ yX3_told cX3_told 3 (Option.some .int)) ({ frames := 3, cells := 0, slots := 0, locals := 64 }) (va_Pc [.ref r0, .int x0, .int y1] (wPre D cI cZ cJ cK hz9 [(r0, .inr (3, [.ref e0, .ref z0, .ref o0, .ref t0, .int qn])), (e0, .inr (0, [.ref eh, .ref eo, .ref ev, .ref er, .int el])), (eh, .inl (cI, 40, .inl fh)), (eo, .inl (cI, 40, .inl fo)), (ev, .inl (cI, 40, .inl fm)), (er, .inl (cZ, 40, .inl fr)), (z0, .inr (1, [.ref e0, .int zn, .ref zw, .ref zv, .ref zs, .int zl, .int zm, .int zk])), (o0, .inr (1, [.ref e0, .int on, .ref ow, .ref ov, .ref os, .int ol, .int om, .int ok]))])) (va_Qi (fun r (_ : Unit) => (r = toV (Hh x) a (bkA a lo0 lo1 (Hh x)) (fm x) k w)) (fun _ _ => True) (fun _ => False)) 0 0 (fun _ => False) := by
  rcases (show a = 0 ∨ a = 1 ∨ a = -1 by omega) with h | h | h
  · exact k_X3_told_0 l D cI cZ cJ cK hz9 r0 x0 y1 e0 z0 o0 t0 qn eh eo ev er el fh fo fm fr zn zw zv zs zl zm zk on ow ov os ol om ok n x lo0 lo1 Hh a k w hem hz ho hxv hxn hfo h hfr hk hwv hwo
  · exact k_X3_told_1 l D cI cZ cJ cK hz9 r0 x0 y1 e0 z0 o0 t0 qn eh eo ev er el fh fo fm fr zn zw zv zs zl zm zk on ow ov os ol om ok n x lo0 lo1 Hh a k w hem hz ho hxv hxn hfo h hfr hk hwv hwo
  · exact k_X3_told_g l D cI cZ cJ cK hz9 r0 x0 y1 e0 z0 o0 t0 qn eh eo ev er el fh fo fm fr zn zw zv zs zl zm zk on ow ov os ol om ok n x lo0 lo1 Hh a k w hem hz ho hxv hxn hfo h hfr hk hwv hwo
set_option maxHeartbeats 4000000 in
set_option maxRecDepth 100000 in
theorem k_X3_told_b (l : Launch) (hl0 : l.stackTraces = false) (D : va_G) (cI cZ cJ cK : ClassId) (hz9 : Nat) (r0 : Nat) (x0 : Int32) (y1 : Int32) (e0 : Nat) (z0 : Nat) (o0 : Nat) (t0 : Nat) (qn : Int32) (eh : Nat) (eo : Nat) (ev : Nat) (er : Nat) (el : Int32) (n x : Nat) (w : Int) (hn : el = iI ↑n) (hn4 : n ≤ 40) (hxv : x0 = iI ↑x) (hxn : x < n) (hwv : y1 = iI w) (hwr : -2147483648 ≤ w ∧ w < 2147483648) (hwo : ¬ (0 ≤ w ∧ w < 5)) : vx_Met l yX3_told (ws_ yX3_told cX3_told 3 (Option.some .int)) ({ frames := 6, cells := 1, slots := 6, locals := 82 }) (va_Pc [.ref r0, .int x0, .int y1] (wPre D cI cZ cJ cK hz9 [(r0, .inr (3, [.ref e0, .ref z0, .ref o0, .ref t0, .int qn])), (e0, .inr (0, [.ref eh, .ref eo, .ref ev, .ref er, .int el]))])) (va_Qi (fun r (_ : Unit) => (False)) (fun _ _ => True) (fun _ => False)) (vx_X (fun (_ : Unit) => True) (fun E _ _ => E = xI) (fun _ => False)) 1 6 (fun _ => False) := by
  refine vx_ofW (cc := cX3_told) (maxL := 3) (ret := (Option.some .int)) (by decide) rfl ?_
  intro p e s m args below meth c s₁ hBd hml hext hv
  obtain ⟨rfl, hsz, hP, hD, hK, hT, hZ⟩ := hv
  have hx := hBd.exec
  have hb := hBd.bytes
  have hr := hBd.returns
  have hts : ∀ w ∈ lw_G, w.before _ s = true := fun w h => atoms_spec (ws := (ws_ yX3_told cX3_told 3 (Option.some .int))) hBd.pre w (List.mem_cons_of_mem _ h)
  have hown : s.vm.findClass RX3 = some m.cls := findClass_of_methodNamed hBd.named
  have hlocks := hBd.notSynchronized
  subst hsz
  have hS : va_S (fun _ => False) s.heap s.heap [] := va_S.rf
  have hl := lv_entry ([.ref r0, .int x0, .int y1]) (n := 3) (Nat.le_of_ble_eq_true rfl)
  rw [lg_entry_eq]
  generalize (lg_sl ([.ref r0, .int x0, .int y1]) ++ List.replicate (3 - (lg_sl ([.ref r0, .int x0, .int y1])).length) Slot.unset).toArray = ls at hl ⊢
  have hl : lv_has ls 3 [(0, .ref r0), (1, .int x0), (2, .int y1)] := hl
  have hP : va_P D vwCl [(r0, .inr (3, [.ref e0, .ref z0, .ref o0, .ref t0, .int qn])), (e0, .inr (0, [.ref eh, .ref eo, .ref ev, .ref er, .int el]))] s.heap := hP
  refine lv_aload_n hx hb dX3_told_0 rfl (lv_at hl 0 rfl) ?_
  refine lv_iload_n hx hb dX3_told_1 rfl (lv_at hl 1 rfl) ?_
  refine cr_v (va_runV (As := [.int x0]) (rest := []) ⟨hx, hb, hml, hown, hts⟩ (k_X3_refuseUnlit l D cI cZ cJ cK _ r0 x0 e0 z0 o0 t0 qn eh eo ev er el n x (hn) (hn4) (hxv.trans (congrArg iI (by omega))) (hxn)) (cwV 1 hts (gV qw373 qw375 qw5 qw10 qw376) rfl rfl rfl (by decide +kernel) ⟨Nat.le_of_ble_eq_true rfl, Nat.le_of_ble_eq_true rfl⟩) (pv (ci := 3) (r := (RX3, TX3, 5)) (q0 := 0) hP hD hK hT hZ hS [0, 1] rfl rfl rfl rfl) rfl rfl hl.1 rfl (lv_room (Nat.le_of_ble_eq_true rfl)) dX3_told_2 ⟨Nat.le_of_ble_eq_true rfl, Nat.le_of_ble_eq_true rfl⟩) hS hP (fun H locs hw_2 hP hS => ?_)
  refine lv_iload_n hx hb dX3_told_5 rfl (lv_at hl 2 rfl) ?_
  have t_6 : y1.toInt = w := by rw [hwv]; exact iI_t (by omega)
  rcases (show w = 0 ∨ w = 1 ∨ w = 2 ∨ w = 3 ∨ w = 4 ∨ (w < 0 ∨ 4 < w) by omega) with c_6 | c_6 | c_6 | c_6 | c_6 | c_6
  · exfalso; omega
  · exfalso; omega
  · exfalso; omega
  · exfalso; omega
  · exfalso; omega
  · refine lv_tableOut (tgt := 90) hx hb dX3_told_6 (by rw [t_6]; omega) (by decide) ?_
    exact lz_throw (text := "told tells 0 to 4") hx hb hl0 hown hts hT hZ hS (by rw [hml]; exact hl.1) (by decide +kernel) at_I (by decide +kernel) dX3_told_90 dX3_told_93 dX3_told_94 dX3_told_96 dX3_told_99 (fun x hx9 => (hext x hx9).elim) (Nat.le_of_ble_eq_true rfl) (Nat.le_of_ble_eq_true rfl) (Nat.le_of_ble_eq_true rfl) (Nat.le_of_ble_eq_true rfl) hlocks (fun t hv1 h1 h2 => ⟨(), trivial, rfl, va_F_grow hS h1 h2⟩) (fun z hz => (hS.2.2 z hz).elim) (by omega) (by omega)
set_option maxHeartbeats 4000000 in
set_option maxRecDepth 100000 in
theorem k_X3_joined (l : Launch) (D : va_G) (cI cZ cJ cK : ClassId) (hz9 : Nat) (d0 : Int64) (x0 : Int32)   : Met l yX3_joined (ws_ yX3_joined cX3_joined 3 (Option.some .long)) ({ frames := 0, cells := 0, slots := 0, locals := 0 }) (va_Pc [.long d0, .int x0] (wPre D cI cZ cJ cK hz9 [])) (va_Ql (fun r (_ : Unit) => (r = jn d0 x0)) (fun _ _ => True) (fun _ => False)) 0 0 (fun _ => False) := by
  refine Met.ofW (cc := cX3_joined) (maxL := 3) (ret := (Option.some .long)) (by decide) rfl ?_
  intro p e s m args below meth c s₁ hBd hml hv
  obtain ⟨rfl, hsz, hP, hD, hK, hT, hZ⟩ := hv
  have hx := hBd.exec
  have hb := hBd.bytes
  have hr := hBd.returns
  have hts : ∀ w ∈ lw_G, w.before _ s = true := fun w h => atoms_spec (ws := (ws_ yX3_joined cX3_joined 3 (Option.some .long))) hBd.pre w (List.mem_cons_of_mem _ h)
  have hown : s.vm.findClass RX3 = some m.cls := findClass_of_methodNamed hBd.named
  have hlocks := hBd.notSynchronized
  subst hsz
  have hS : va_S (fun _ => False) s.heap s.heap [] := va_S.rf
  have hl := lv_entry ([.long d0, .int x0]) (n := 3) (Nat.le_of_ble_eq_true rfl)
  rw [lg_entry_eq]
  generalize (lg_sl ([.long d0, .int x0]) ++ List.replicate (3 - (lg_sl ([.long d0, .int x0])).length) Slot.unset).toArray = ls at hl ⊢
  have hl : lv_has ls 3 [(0, .long d0), (2, .int x0)] := hl
  have hP : va_P D vwCl [] s.heap := hP
  refine lv_lload_n hx hb dX3_joined_0 rfl (lv_at hl 0 rfl) ?_
  refine lv_ldc2 (v := (31 : Int64)) hx hb hown (hts _ qw452) dX3_joined_1 ?_
  refine lv_topl (fun x_1 e_1 => ?_)
  refine lv_lmul hx hb dX3_joined_4 ?_
  refine lv_topl (fun x_4 e_4 => ?_)
  refine lv_iload_n hx hb dX3_joined_5 rfl (lv_at hl 1 rfl) ?_
  refine lv_i2l hx hb dX3_joined_6 rfl ?_
  refine lv_topl (fun x_6 e_6 => ?_)
  refine lv_ladd hx hb dX3_joined_7 ?_
  refine lv_topl (fun x_7 e_7 => ?_)
  exact W.lret (v := x_7) hx hb hr (fun t ht hW => ⟨⟨x_7, (), rfl, by rw [e_7, e_6, e_4, e_1]; rfl, trivial⟩, hS.F ht⟩) hS.2.2 dX3_joined_8
set_option maxHeartbeats 4000000 in
set_option maxRecDepth 100000 in
theorem k_X3_joinedHearth_0 (l : Launch) (D : va_G) (cI cZ cJ cK : ClassId) (hz9 : Nat) (r0 : Nat) (d0 : Int64) (h0 : Int32) (e0 : Nat) (z0 : Nat) (o0 : Nat) (t0 : Nat) (qn : Int32) (eh : Nat) (eo : Nat) (ev : Nat) (er : Nat) (el : Int32) (fh : Nat → Int32) (zn : Int32) (zw : Nat) (zv : Nat) (zs : Nat) (zl : Int32) (zm : Int32) (zk : Int32) (zwa : Nat) (zsz : Int32) (zf : Nat → Int32) (zsf : Nat → Int32) (lo n : Nat) (Hh : Nat → Nat) (L : List Nat) (hem : embIs el fh n Hh) (hhe : heaIs zl zsz zf zsf lo n Hh L) (hhv : h0 = iI (0)) (hok : heaOk lo Hh L) : Met l yX3_joinedHearth (ws_ yX3_joinedHearth cX3_joinedHearth 10 (Option.some .long)) ({ frames := 4, cells := 0, slots := 0, locals := 87 }) (va_Pc [.ref r0, .long d0, .int h0] (wPre D cI cZ cJ cK hz9 [(r0, .inr (3, [.ref e0, .ref z0, .ref o0, .ref t0, .int qn])), (e0, .inr (0, [.ref eh, .ref eo, .ref ev, .ref er, .int el])), (eh, .inl (cI, 40, .inl fh)), (z0, .inr (1, [.ref e0, .int zn, .ref zw, .ref zv, .ref zs, .int zl, .int zm, .int zk])), (zw, .inr (2, [.ref zwa, .int zsz])), (zwa, .inl (cI, 40, .inl zf)), (zs, .inl (cI, 11, .inl zsf))])) (va_Ql (fun r (_ : Unit) => (r = hdF lo Hh L zk d0)) (fun _ _ => True) (fun _ => False)) 0 0 (fun _ => False) := by
  refine Met.ofW (cc := cX3_joinedHearth) (maxL := 10) (ret := (Option.some .long)) (by decide) rfl ?_
  intro p e s m args below meth c s₁ hBd hml hv
  obtain ⟨rfl, hsz, hP, hD, hK, hT, hZ⟩ := hv
  have hx := hBd.exec
  have hb := hBd.bytes
  have hr := hBd.returns
  have hts : ∀ w ∈ lw_G, w.before _ s = true := fun w h => atoms_spec (ws := (ws_ yX3_joinedHearth cX3_joinedHearth 10 (Option.some .long))) hBd.pre w (List.mem_cons_of_mem _ h)
  have hown : s.vm.findClass RX3 = some m.cls := findClass_of_methodNamed hBd.named
  have hlocks := hBd.notSynchronized
  subst hsz
  have hS : va_S (fun _ => False) s.heap s.heap [] := va_S.rf
  have hl := lv_entry ([.ref r0, .long d0, .int h0]) (n := 10) (Nat.le_of_ble_eq_true rfl)
  rw [lg_entry_eq]
  generalize (lg_sl ([.ref r0, .long d0, .int h0]) ++ List.replicate (10 - (lg_sl ([.ref r0, .long d0, .int h0])).length) Slot.unset).toArray = ls at hl ⊢
  have hl : lv_has ls 10 [(0, .ref r0), (1, .long d0), (3, .int h0)] := hl
  have hP : va_P D vwCl [(r0, .inr (3, [.ref e0, .ref z0, .ref o0, .ref t0, .int qn])), (e0, .inr (0, [.ref eh, .ref eo, .ref ev, .ref er, .int el])), (eh, .inl (cI, 40, .inl fh)), (z0, .inr (1, [.ref e0, .int zn, .ref zw, .ref zv, .ref zs, .int zl, .int zm, .int zk])), (zw, .inr (2, [.ref zwa, .int zsz])), (zwa, .inl (cI, 40, .inl zf)), (zs, .inl (cI, 11, .inl zsf))] s.heap := hP
  obtain ⟨hn, hn4, hfh⟩ := id hem
  obtain ⟨hlo, hlo4, hrow, hsz, hLx⟩ := id hhe
  have hl4 := hrow.2.1
  refine lv_lload_n hx hb dX3_joinedHearth_0 rfl (lv_at hl 1 rfl) ?_
  refine lv_lstore (lv' := [(4, .long d0), (0, .ref r0), (1, .long d0), (3, .int h0)]) hx hb dX3_joinedHearth_1 hl (by decide) rfl (fun ls hl => ?_)
  refine lz_iconst hx hb dX3_joinedHearth_3 (fun x_3 v_3 => ?_)
  refine lv_istore (lv' := [(6, .int x_3), (4, .long d0), (0, .ref r0), (1, .long d0), (3, .int h0)]) hx hb dX3_joinedHearth_4 hl (by decide) rfl (fun ls hl => ?_)
  have key6 : ∀ (fu : Nat) (i : Nat) (ii : Int32) (dd : Int64) (H : Heap) (locs : List Loc) (ls : Array Slot), 7 - i < fu → (ii = iI (↑i)) → (i ≤ 6) → (dd = dgN (abF lo Hh L zk) d0 i) → va_P D vwCl [(r0, .inr (3, [.ref e0, .ref z0, .ref o0, .ref t0, .int qn])), (e0, .inr (0, [.ref eh, .ref eo, .ref ev, .ref er, .int el])), (eh, .inl (cI, 40, .inl fh)), (z0, .inr (1, [.ref e0, .int zn, .ref zw, .ref zv, .ref zs, .int zl, .int zm, .int zk])), (zw, .inr (2, [.ref zwa, .int zsz])), (zwa, .inl (cI, 40, .inl zf)), (zs, .inl (cI, 11, .inl zsf))] H → va_S (fun _ => False) s.heap H locs → lv_has ls 10 [(6, .int ii), (4, .long dd), (0, .ref r0), (1, .long d0), (3, .int h0)] → W p l e (headSpec (ws_ yX3_joinedHearth cX3_joinedHearth 10 (Option.some .long)) ({ frames := 4, cells := 0, slots := 0, locals := 87 })).room s m ([.ref r0, .long d0, .int h0] : List Value).toArray below meth c H locs 0 0 (MQ below (va_Ql (fun r (_ : Unit) => (r = hdF lo Hh L zk d0)) (fun _ _ => True) (fun _ => False)) ([.ref r0, .long d0, .int h0] : List Value).toArray s 0 0 (fun _ => False)) (F0 m 6 ls []) := by
    intro fu
    induction fu with
    | zero => intros; omega
    | succ fu ih6 =>
      intro i ii dd H locs ls hfu hi hle hd hP hS hl
      refine lv_iload hx hb dX3_joinedHearth_6 (lv_at hl 0 rfl) ?_
      refine lz_bipush hx hb (by decide) dX3_joinedHearth_8 (fun x_8 v_8 => ?_)
      refine lz_icmp_ge (tgt := 33) hx hb hi v_8 ⟨by omega, by omega⟩ dX3_joinedHearth_10 (by decide) (fun c_10 => ?_) (fun c_10 => ?_)
      · refine lv_aload_n hx hb dX3_joinedHearth_33 rfl (lv_at hl 2 rfl) ?_
        refine lv_iload_n hx hb dX3_joinedHearth_34 rfl (lv_at hl 4 rfl) ?_
        refine cr_r (va_runV (As := [.int h0]) (rest := []) ⟨hx, hb, hml, hown, hts⟩ (k_X3_hearthOf_0 l D cI cZ cJ cK _ r0 h0 e0 z0 o0 t0 qn (hhv.trans (congrArg iI (by omega)))) (cwV 1 hts (gV qw119 qw121 qw0 qw10 qw122) rfl rfl rfl (by decide +kernel) ⟨Nat.le_of_ble_eq_true rfl, Nat.le_of_ble_eq_true rfl⟩) (pv (ci := 3) (r := (RX3, TX3, 5)) (q0 := 0) hP hD hK hT hZ hS [0] rfl rfl rfl rfl) rfl rfl hl.1 rfl (lv_room (Nat.le_of_ble_eq_true rfl)) dX3_joinedHearth_35 ⟨Nat.le_of_ble_eq_true rfl, Nat.le_of_ble_eq_true rfl⟩) hS hP (fun x_35 H locs hw_35 hP hS => ?_)
        have hw_35 : (x_35 = z0) := hw_35
        have v_35 := hw_35
        have v_35 := v_35.symm
        subst v_35
        refine lv_astore (lv' := [(6, .ref z0), (4, .long dd), (0, .ref r0), (1, .long d0), (3, .int h0)]) hx hb dX3_joinedHearth_38 hl (by decide) rfl (fun ls hl => ?_)
        refine lz_iconst hx hb dX3_joinedHearth_40 (fun x_40 v_40 => ?_)
        refine lv_istore (lv' := [(7, .int x_40), (6, .ref z0), (4, .long dd), (0, .ref r0), (1, .long d0), (3, .int h0)]) hx hb dX3_joinedHearth_41 hl (by decide) rfl (fun ls hl => ?_)
        have key43 : ∀ (fu : Nat) (i : Nat) (ii : Int32) (dd : Int64) (H : Heap) (locs : List Loc) (ls : Array Slot), 12 - i < fu → (ii = iI (↑i)) → (i ≤ 11) → (dd = dgM (bkV (cnt (ka lo Hh) L) L) (bmF (cnt (ka lo Hh) L)) (dgN (abF lo Hh L zk) d0 6) i) → va_P D vwCl [(r0, .inr (3, [.ref e0, .ref z0, .ref o0, .ref t0, .int qn])), (e0, .inr (0, [.ref eh, .ref eo, .ref ev, .ref er, .int el])), (eh, .inl (cI, 40, .inl fh)), (z0, .inr (1, [.ref e0, .int zn, .ref zw, .ref zv, .ref zs, .int zl, .int zm, .int zk])), (zw, .inr (2, [.ref zwa, .int zsz])), (zwa, .inl (cI, 40, .inl zf)), (zs, .inl (cI, 11, .inl zsf))] H → va_S (fun _ => False) s.heap H locs → lv_has ls 10 [(7, .int ii), (6, .ref z0), (4, .long dd), (0, .ref r0), (1, .long d0), (3, .int h0)] → W p l e (headSpec (ws_ yX3_joinedHearth cX3_joinedHearth 10 (Option.some .long)) ({ frames := 4, cells := 0, slots := 0, locals := 87 })).room s m ([.ref r0, .long d0, .int h0] : List Value).toArray below meth c H locs 0 0 (MQ below (va_Ql (fun r (_ : Unit) => (r = hdF lo Hh L zk d0)) (fun _ _ => True) (fun _ => False)) ([.ref r0, .long d0, .int h0] : List Value).toArray s 0 0 (fun _ => False)) (F0 m 43 ls []) := by
          intro fu
          induction fu with
          | zero => intros; omega
          | succ fu ih43 =>
            intro i ii dd H locs ls hfu hi hle hd hP hS hl
            refine lv_iload hx hb dX3_joinedHearth_43 (lv_at hl 0 rfl) ?_
            refine lz_bipush hx hb (by decide) dX3_joinedHearth_45 (fun x_45 v_45 => ?_)
            refine lz_icmp_ge (tgt := 106) hx hb hi v_45 ⟨by omega, by omega⟩ dX3_joinedHearth_47 (by decide) (fun c_47 => ?_) (fun c_47 => ?_)
            · have hid := hdF_of hd (by omega)
              refine lv_lload hx hb dX3_joinedHearth_106 (lv_at hl 2 rfl) ?_
              exact W.lret (v := dd) hx hb hr (fun t ht hW => ⟨⟨dd, (), rfl, hid, trivial⟩, hS.F ht⟩) hS.2.2 dX3_joinedHearth_108
            · refine lv_aload hx hb dX3_joinedHearth_50 (lv_at hl 1 rfl) ?_
              refine lv_iload hx hb dX3_joinedHearth_52 (lv_at hl 0 rfl) ?_
              refine cr_i (va_runV (As := [.int ii]) (rest := []) ⟨hx, hb, hml, hown, hts⟩ (k_X1_sizeOf l D cI cZ cJ cK _ z0 ii e0 zn zw zv zs zl zm zk zsf (cnt (ka lo Hh) L) (↑i) (hsz) (hi.trans (congrArg iI (by omega))) (by omega)) (cwV 1 hts (gV qw309 qw228 qw229 qw12 qw230) rfl rfl rfl (by decide +kernel) ⟨Nat.le_of_ble_eq_true rfl, Nat.le_of_ble_eq_true rfl⟩) (pv (ci := 1) (r := (RX1, TX1, 8)) (q0 := 3) hP hD hK hT hZ hS [3, 6] rfl rfl rfl rfl) rfl rfl hl.1 rfl (lv_room (Nat.le_of_ble_eq_true rfl)) dX3_joinedHearth_54 ⟨Nat.le_of_ble_eq_true rfl, Nat.le_of_ble_eq_true rfl⟩) hS hP (fun x_54 H locs hw_54 hP hS => ?_)
              have hw_54 : (x_54 = iI (szA (cnt (ka lo Hh) L) (↑i))) := hw_54
              have v_54 := hw_54
              have hci := psum_at (cnt (ka lo Hh) L) (a := i) (b := 11) (by omega)
              have hp11 := hsz.2
              refine lv_istore (lv' := [(8, .int x_54), (7, .int ii), (6, .ref z0), (4, .long dd), (0, .ref r0), (1, .long d0), (3, .int h0)]) hx hb dX3_joinedHearth_57 hl (by decide) rfl (fun ls hl => ?_)
              refine lv_lload hx hb dX3_joinedHearth_59 (lv_at hl 3 rfl) ?_
              refine lv_iload hx hb dX3_joinedHearth_61 (lv_at hl 0 rfl) ?_
              refine cr_l (va_runS (As := [.long dd, .int x_54]) (rest := []) ⟨hx, hb, hml, hown, hts⟩ (k_X3_joined l D cI cZ cJ cK _ dd x_54 ) (va_cwS 2 hts (gS qw449 qw450 qw10 qw451) rfl rfl rfl (by decide +kernel) ⟨Nat.le_of_ble_eq_true rfl, Nat.le_of_ble_eq_true rfl⟩) (ps hP hD hK hT hZ hS [] rfl rfl) rfl rfl hl.1 rfl (lv_room (Nat.le_of_ble_eq_true rfl)) dX3_joinedHearth_63 ⟨Nat.le_of_ble_eq_true rfl, Nat.le_of_ble_eq_true rfl⟩) hS hP (fun x_63 H locs hw_63 hP hS => ?_)
              have hw_63 : (x_63 = jn dd x_54) := hw_63
              have v_63 := hw_63
              refine lv_lstore (lv' := [(4, .long x_63), (8, .int x_54), (7, .int ii), (6, .ref z0), (0, .ref r0), (1, .long d0), (3, .int h0)]) hx hb dX3_joinedHearth_66 hl (by decide) rfl (fun ls hl => ?_)
              refine lz_iconst hx hb dX3_joinedHearth_68 (fun x_68 v_68 => ?_)
              refine lv_istore (lv' := [(9, .int x_68), (4, .long x_63), (8, .int x_54), (7, .int ii), (6, .ref z0), (0, .ref r0), (1, .long d0), (3, .int h0)]) hx hb dX3_joinedHearth_69 hl (by decide) rfl (fun ls hl => ?_)
              have key71 : ∀ (fu : Nat) (j : Nat) (jj : Int32) (de : Int64) (H : Heap) (locs : List Loc) (ls : Array Slot), (cnt (ka lo Hh) L) i + 1 - j < fu → (jj = iI (↑j)) → (j ≤ (cnt (ka lo Hh) L) i) → (de = dgN ((bkV (cnt (ka lo Hh) L) L) i) dd (j + 1)) → va_P D vwCl [(r0, .inr (3, [.ref e0, .ref z0, .ref o0, .ref t0, .int qn])), (e0, .inr (0, [.ref eh, .ref eo, .ref ev, .ref er, .int el])), (eh, .inl (cI, 40, .inl fh)), (z0, .inr (1, [.ref e0, .int zn, .ref zw, .ref zv, .ref zs, .int zl, .int zm, .int zk])), (zw, .inr (2, [.ref zwa, .int zsz])), (zwa, .inl (cI, 40, .inl zf)), (zs, .inl (cI, 11, .inl zsf))] H → va_S (fun _ => False) s.heap H locs → lv_has ls 10 [(9, .int jj), (4, .long de), (8, .int x_54), (7, .int ii), (6, .ref z0), (0, .ref r0), (1, .long d0), (3, .int h0)] → W p l e (headSpec (ws_ yX3_joinedHearth cX3_joinedHearth 10 (Option.some .long)) ({ frames := 4, cells := 0, slots := 0, locals := 87 })).room s m ([.ref r0, .long d0, .int h0] : List Value).toArray below meth c H locs 0 0 (MQ below (va_Ql (fun r (_ : Unit) => (r = hdF lo Hh L zk d0)) (fun _ _ => True) (fun _ => False)) ([.ref r0, .long d0, .int h0] : List Value).toArray s 0 0 (fun _ => False)) (F0 m 71 ls []) := by
                intro fu
                induction fu with
                | zero => intros; omega
                | succ fu ih71 =>
                  intro j jj de H locs ls hfu hj hje he hP hS hl
                  refine lv_iload hx hb dX3_joinedHearth_71 (lv_at hl 0 rfl) ?_
                  refine lv_iload hx hb dX3_joinedHearth_73 (lv_at hl 2 rfl) ?_
                  refine lz_icmp_ge (tgt := 100) hx hb hj (v_54.trans (congrArg iI (szA_nat _ _))) ⟨by omega, by omega⟩ dX3_joinedHearth_75 (by decide) (fun c_75 => ?_) (fun c_75 => ?_)
                  · refine lz_iinc (lv2 := fun z => [(7, .int z), (9, .int jj), (4, .long de), (8, .int x_54), (6, .ref z0), (0, .ref r0), (1, .long d0), (3, .int h0)]) hx hb dX3_joinedHearth_100 hl (k := 3) rfl hi (by decide) (fun _ => rfl) (fun x_100 ls v_100 hl => ?_)
                    refine lv_goto (tgt := 43) hx hb dX3_joinedHearth_103 (by decide) ?_
                    exact ih43 (i + 1) x_100 de _ _ _ (by omega) (v_100.trans (congrArg iI (by omega))) (by omega) (by rw [he, show j = (cnt (ka lo Hh) L) i by omega, hd]; exact (dgM_s _ _ _ _).symm) hP hS (lv_sub hl [0, 4, 2, 5, 6, 7] rfl)
                  · refine lv_lload hx hb dX3_joinedHearth_78 (lv_at hl 1 rfl) ?_
                    refine lv_aload hx hb dX3_joinedHearth_80 (lv_at hl 4 rfl) ?_
                    refine lv_iload hx hb dX3_joinedHearth_82 (lv_at hl 3 rfl) ?_
                    refine lv_iload hx hb dX3_joinedHearth_84 (lv_at hl 0 rfl) ?_
                    refine cr_i (va_runV (As := [.int ii, .int jj]) (rest := [.long de]) ⟨hx, hb, hml, hown, hts⟩ (k_X1_emberAt l D cI cZ cJ cK _ z0 ii jj e0 zn zw zv zs zl zm zk zwa zsz zf zsf (cnt (ka lo Hh) L) L i j (hrow) (hsz) (hi.trans (congrArg iI (by omega))) (hj.trans (congrArg iI (by omega))) (by omega) (by omega) (cnt_psum_le _ _ _)) (cwV 2 hts (gV qw315 qw316 qw317 qw12 qw318) rfl rfl rfl (by decide +kernel) ⟨Nat.le_of_ble_eq_true rfl, Nat.le_of_ble_eq_true rfl⟩) (pv (ci := 1) (r := (RX1, TX1, 8)) (q0 := 3) hP hD hK hT hZ hS [3, 4, 5, 6] rfl rfl rfl rfl) rfl rfl hl.1 rfl (lv_room (Nat.le_of_ble_eq_true rfl)) dX3_joinedHearth_86 ⟨Nat.le_of_ble_eq_true rfl, Nat.le_of_ble_eq_true rfl⟩) hS hP (fun x_86 H locs hw_86 hP hS => ?_)
                    have hw_86 : (x_86 = iI (↑(L.getD (psum (cnt (ka lo Hh) L) i + j) 0))) := hw_86
                    have v_86 := hw_86
                    refine cr_l (va_runS (As := [.long de, .int x_86]) (rest := []) ⟨hx, hb, hml, hown, hts⟩ (k_X3_joined l D cI cZ cJ cK _ de x_86 ) (va_cwS 2 hts (gS qw449 qw450 qw10 qw451) rfl rfl rfl (by decide +kernel) ⟨Nat.le_of_ble_eq_true rfl, Nat.le_of_ble_eq_true rfl⟩) (ps hP hD hK hT hZ hS [] rfl rfl) rfl rfl hl.1 rfl (lv_room (Nat.le_of_ble_eq_true rfl)) dX3_joinedHearth_89 ⟨Nat.le_of_ble_eq_true rfl, Nat.le_of_ble_eq_true rfl⟩) hS hP (fun x_89 H locs hw_89 hP hS => ?_)
                    have hw_89 : (x_89 = jn de x_86) := hw_89
                    have v_89 := hw_89
                    refine lv_lstore (lv' := [(4, .long x_89), (9, .int jj), (8, .int x_54), (7, .int ii), (6, .ref z0), (0, .ref r0), (1, .long d0), (3, .int h0)]) hx hb dX3_joinedHearth_92 hl (by decide) rfl (fun ls hl => ?_)
                    refine lz_iinc (lv2 := fun z => [(9, .int z), (4, .long x_89), (8, .int x_54), (7, .int ii), (6, .ref z0), (0, .ref r0), (1, .long d0), (3, .int h0)]) hx hb dX3_joinedHearth_94 hl (k := 1) rfl hj (by decide) (fun _ => rfl) (fun x_94 ls v_94 hl => ?_)
                    refine lv_goto (tgt := 71) hx hb dX3_joinedHearth_97 (by decide) ?_
                    exact ih71 (j + 1) x_94 x_89 _ _ _ (by omega) (v_94.trans (congrArg iI (by omega))) (by omega) (by rw [v_89, v_86, he]; exact (dgN_s _ _ _).symm) hP hS (lv_sub hl [0, 1, 2, 3, 4, 5, 6, 7] rfl)
              exact key71 _ 0 x_68 x_63 _ _ _ (Nat.lt_succ_self _) (v_68.trans (congrArg iI (by omega))) (by omega) (by rw [v_63, v_54, szA_nat]; rfl) hP hS (lv_sub hl [0, 1, 2, 3, 4, 5, 6, 7] rfl)
        exact key43 _ 0 x_40 dd _ _ _ (Nat.lt_succ_self _) (v_40.trans (congrArg iI (by omega))) (by omega) (by rw [hd, show i = 6 by omega]; rfl) hP hS (lv_sub hl [0, 1, 2, 3, 4, 5] rfl)
      · refine lv_lload hx hb dX3_joinedHearth_13 (lv_at hl 1 rfl) ?_
        refine lv_aload_n hx hb dX3_joinedHearth_15 rfl (lv_at hl 2 rfl) ?_
        refine lv_iload_n hx hb dX3_joinedHearth_16 rfl (lv_at hl 4 rfl) ?_
        refine lv_iload hx hb dX3_joinedHearth_17 (lv_at hl 0 rfl) ?_
        refine cr_i (va_runV (As := [.int h0, .int ii]) (rest := [.long dd]) ⟨hx, hb, hml, hown, hts⟩ (k_X3_about_0 l D cI cZ cJ cK _ r0 h0 ii e0 z0 o0 t0 qn eh eo ev er el fh zn zw zv zs zl zm zk zwa zsz zf zsf lo n Hh L (↑i) (hem) (hhe) (hhv.trans (congrArg iI (by omega))) (hok) (hi.trans (congrArg iI (by omega))) (by omega)) (cwV 2 hts (gV qw457 qw345 qw346 qw10 qw347) rfl rfl rfl (by decide +kernel) ⟨Nat.le_of_ble_eq_true rfl, Nat.le_of_ble_eq_true rfl⟩) (pv (ci := 3) (r := (RX3, TX3, 5)) (q0 := 0) hP hD hK hT hZ hS [0, 1, 2, 3, 4, 5, 6] rfl rfl rfl rfl) rfl rfl hl.1 rfl (lv_room (Nat.le_of_ble_eq_true rfl)) dX3_joinedHearth_19 ⟨Nat.le_of_ble_eq_true rfl, Nat.le_of_ble_eq_true rfl⟩) hS hP (fun x_19 H locs hw_19 hP hS => ?_)
        have hw_19 : (x_19 = abV lo Hh L zk (↑i)) := hw_19
        have v_19 := hw_19
        refine cr_l (va_runS (As := [.long dd, .int x_19]) (rest := []) ⟨hx, hb, hml, hown, hts⟩ (k_X3_joined l D cI cZ cJ cK _ dd x_19 ) (va_cwS 2 hts (gS qw449 qw450 qw10 qw451) rfl rfl rfl (by decide +kernel) ⟨Nat.le_of_ble_eq_true rfl, Nat.le_of_ble_eq_true rfl⟩) (ps hP hD hK hT hZ hS [] rfl rfl) rfl rfl hl.1 rfl (lv_room (Nat.le_of_ble_eq_true rfl)) dX3_joinedHearth_22 ⟨Nat.le_of_ble_eq_true rfl, Nat.le_of_ble_eq_true rfl⟩) hS hP (fun x_22 H locs hw_22 hP hS => ?_)
        have hw_22 : (x_22 = jn dd x_19) := hw_22
        have v_22 := hw_22
        refine lv_lstore (lv' := [(4, .long x_22), (6, .int ii), (0, .ref r0), (1, .long d0), (3, .int h0)]) hx hb dX3_joinedHearth_25 hl (by decide) rfl (fun ls hl => ?_)
        refine lz_iinc (lv2 := fun z => [(6, .int z), (4, .long x_22), (0, .ref r0), (1, .long d0), (3, .int h0)]) hx hb dX3_joinedHearth_27 hl (k := 1) rfl hi (by decide) (fun _ => rfl) (fun x_27 ls v_27 hl => ?_)
        refine lv_goto (tgt := 6) hx hb dX3_joinedHearth_30 (by decide) ?_
        exact ih6 (i + 1) x_27 x_22 _ _ _ (by omega) (v_27.trans (congrArg iI (by omega))) (by omega) (by rw [v_22, v_19, hd]; exact (dgN_s _ _ _).symm) hP hS (lv_sub hl [0, 1, 2, 3, 4] rfl)
  exact key6 _ 0 x_3 d0 _ _ _ (Nat.lt_succ_self _) (v_3.trans (congrArg iI (by omega))) (by omega) (rfl) hP hS (lv_sub hl [0, 1, 2, 3, 4] rfl)
set_option maxHeartbeats 4000000 in
set_option maxRecDepth 100000 in
theorem k_X3_joinedHearth_1 (l : Launch) (D : va_G) (cI cZ cJ cK : ClassId) (hz9 : Nat) (r0 : Nat) (d0 : Int64) (h0 : Int32) (e0 : Nat) (z0 : Nat) (o0 : Nat) (t0 : Nat) (qn : Int32) (eh : Nat) (eo : Nat) (ev : Nat) (er : Nat) (el : Int32) (fh : Nat → Int32) (on : Int32) (ow : Nat) (ov : Nat) (os : Nat) (ol : Int32) (om : Int32) (ok : Int32) (owa : Nat) (osz : Int32) (of : Nat → Int32) (osf : Nat → Int32) (lo n : Nat) (Hh : Nat → Nat) (L : List Nat) (hem : embIs el fh n Hh) (hhe : heaIs ol osz of osf lo n Hh L) (hhv : h0 = iI (1)) (hok : heaOk lo Hh L) : Met l yX3_joinedHearth (ws_ yX3_joinedHearth cX3_joinedHearth 10 (Option.some .long)) ({ frames := 4, cells := 0, slots := 0, locals := 87 }) (va_Pc [.ref r0, .long d0, .int h0] (wPre D cI cZ cJ cK hz9 [(r0, .inr (3, [.ref e0, .ref z0, .ref o0, .ref t0, .int qn])), (e0, .inr (0, [.ref eh, .ref eo, .ref ev, .ref er, .int el])), (eh, .inl (cI, 40, .inl fh)), (o0, .inr (1, [.ref e0, .int on, .ref ow, .ref ov, .ref os, .int ol, .int om, .int ok])), (ow, .inr (2, [.ref owa, .int osz])), (owa, .inl (cI, 40, .inl of)), (os, .inl (cI, 11, .inl osf))])) (va_Ql (fun r (_ : Unit) => (r = hdF lo Hh L ok d0)) (fun _ _ => True) (fun _ => False)) 0 0 (fun _ => False) := by
  refine Met.ofW (cc := cX3_joinedHearth) (maxL := 10) (ret := (Option.some .long)) (by decide) rfl ?_
  intro p e s m args below meth c s₁ hBd hml hv
  obtain ⟨rfl, hsz, hP, hD, hK, hT, hZ⟩ := hv
  have hx := hBd.exec
  have hb := hBd.bytes
  have hr := hBd.returns
  have hts : ∀ w ∈ lw_G, w.before _ s = true := fun w h => atoms_spec (ws := (ws_ yX3_joinedHearth cX3_joinedHearth 10 (Option.some .long))) hBd.pre w (List.mem_cons_of_mem _ h)
  have hown : s.vm.findClass RX3 = some m.cls := findClass_of_methodNamed hBd.named
  have hlocks := hBd.notSynchronized
  subst hsz
  have hS : va_S (fun _ => False) s.heap s.heap [] := va_S.rf
  have hl := lv_entry ([.ref r0, .long d0, .int h0]) (n := 10) (Nat.le_of_ble_eq_true rfl)
  rw [lg_entry_eq]
  generalize (lg_sl ([.ref r0, .long d0, .int h0]) ++ List.replicate (10 - (lg_sl ([.ref r0, .long d0, .int h0])).length) Slot.unset).toArray = ls at hl ⊢
  have hl : lv_has ls 10 [(0, .ref r0), (1, .long d0), (3, .int h0)] := hl
  have hP : va_P D vwCl [(r0, .inr (3, [.ref e0, .ref z0, .ref o0, .ref t0, .int qn])), (e0, .inr (0, [.ref eh, .ref eo, .ref ev, .ref er, .int el])), (eh, .inl (cI, 40, .inl fh)), (o0, .inr (1, [.ref e0, .int on, .ref ow, .ref ov, .ref os, .int ol, .int om, .int ok])), (ow, .inr (2, [.ref owa, .int osz])), (owa, .inl (cI, 40, .inl of)), (os, .inl (cI, 11, .inl osf))] s.heap := hP
  obtain ⟨hn, hn4, hfh⟩ := id hem
  obtain ⟨hlo, hlo4, hrow, hsz, hLx⟩ := id hhe
  have hl4 := hrow.2.1
  refine lv_lload_n hx hb dX3_joinedHearth_0 rfl (lv_at hl 1 rfl) ?_
  refine lv_lstore (lv' := [(4, .long d0), (0, .ref r0), (1, .long d0), (3, .int h0)]) hx hb dX3_joinedHearth_1 hl (by decide) rfl (fun ls hl => ?_)
  refine lz_iconst hx hb dX3_joinedHearth_3 (fun x_3 v_3 => ?_)
  refine lv_istore (lv' := [(6, .int x_3), (4, .long d0), (0, .ref r0), (1, .long d0), (3, .int h0)]) hx hb dX3_joinedHearth_4 hl (by decide) rfl (fun ls hl => ?_)
  have key6 : ∀ (fu : Nat) (i : Nat) (ii : Int32) (dd : Int64) (H : Heap) (locs : List Loc) (ls : Array Slot), 7 - i < fu → (ii = iI (↑i)) → (i ≤ 6) → (dd = dgN (abF lo Hh L ok) d0 i) → va_P D vwCl [(r0, .inr (3, [.ref e0, .ref z0, .ref o0, .ref t0, .int qn])), (e0, .inr (0, [.ref eh, .ref eo, .ref ev, .ref er, .int el])), (eh, .inl (cI, 40, .inl fh)), (o0, .inr (1, [.ref e0, .int on, .ref ow, .ref ov, .ref os, .int ol, .int om, .int ok])), (ow, .inr (2, [.ref owa, .int osz])), (owa, .inl (cI, 40, .inl of)), (os, .inl (cI, 11, .inl osf))] H → va_S (fun _ => False) s.heap H locs → lv_has ls 10 [(6, .int ii), (4, .long dd), (0, .ref r0), (1, .long d0), (3, .int h0)] → W p l e (headSpec (ws_ yX3_joinedHearth cX3_joinedHearth 10 (Option.some .long)) ({ frames := 4, cells := 0, slots := 0, locals := 87 })).room s m ([.ref r0, .long d0, .int h0] : List Value).toArray below meth c H locs 0 0 (MQ below (va_Ql (fun r (_ : Unit) => (r = hdF lo Hh L ok d0)) (fun _ _ => True) (fun _ => False)) ([.ref r0, .long d0, .int h0] : List Value).toArray s 0 0 (fun _ => False)) (F0 m 6 ls []) := by
    intro fu
    induction fu with
    | zero => intros; omega
    | succ fu ih6 =>
      intro i ii dd H locs ls hfu hi hle hd hP hS hl
      refine lv_iload hx hb dX3_joinedHearth_6 (lv_at hl 0 rfl) ?_
      refine lz_bipush hx hb (by decide) dX3_joinedHearth_8 (fun x_8 v_8 => ?_)
      refine lz_icmp_ge (tgt := 33) hx hb hi v_8 ⟨by omega, by omega⟩ dX3_joinedHearth_10 (by decide) (fun c_10 => ?_) (fun c_10 => ?_)
      · refine lv_aload_n hx hb dX3_joinedHearth_33 rfl (lv_at hl 2 rfl) ?_
        refine lv_iload_n hx hb dX3_joinedHearth_34 rfl (lv_at hl 4 rfl) ?_
        refine cr_r (va_runV (As := [.int h0]) (rest := []) ⟨hx, hb, hml, hown, hts⟩ (k_X3_hearthOf_1 l D cI cZ cJ cK _ r0 h0 e0 z0 o0 t0 qn (hhv.trans (congrArg iI (by omega)))) (cwV 1 hts (gV qw119 qw121 qw0 qw10 qw122) rfl rfl rfl (by decide +kernel) ⟨Nat.le_of_ble_eq_true rfl, Nat.le_of_ble_eq_true rfl⟩) (pv (ci := 3) (r := (RX3, TX3, 5)) (q0 := 0) hP hD hK hT hZ hS [0] rfl rfl rfl rfl) rfl rfl hl.1 rfl (lv_room (Nat.le_of_ble_eq_true rfl)) dX3_joinedHearth_35 ⟨Nat.le_of_ble_eq_true rfl, Nat.le_of_ble_eq_true rfl⟩) hS hP (fun x_35 H locs hw_35 hP hS => ?_)
        have hw_35 : (x_35 = o0) := hw_35
        have v_35 := hw_35
        have v_35 := v_35.symm
        subst v_35
        refine lv_astore (lv' := [(6, .ref o0), (4, .long dd), (0, .ref r0), (1, .long d0), (3, .int h0)]) hx hb dX3_joinedHearth_38 hl (by decide) rfl (fun ls hl => ?_)
        refine lz_iconst hx hb dX3_joinedHearth_40 (fun x_40 v_40 => ?_)
        refine lv_istore (lv' := [(7, .int x_40), (6, .ref o0), (4, .long dd), (0, .ref r0), (1, .long d0), (3, .int h0)]) hx hb dX3_joinedHearth_41 hl (by decide) rfl (fun ls hl => ?_)
        have key43 : ∀ (fu : Nat) (i : Nat) (ii : Int32) (dd : Int64) (H : Heap) (locs : List Loc) (ls : Array Slot), 12 - i < fu → (ii = iI (↑i)) → (i ≤ 11) → (dd = dgM (bkV (cnt (ka lo Hh) L) L) (bmF (cnt (ka lo Hh) L)) (dgN (abF lo Hh L ok) d0 6) i) → va_P D vwCl [(r0, .inr (3, [.ref e0, .ref z0, .ref o0, .ref t0, .int qn])), (e0, .inr (0, [.ref eh, .ref eo, .ref ev, .ref er, .int el])), (eh, .inl (cI, 40, .inl fh)), (o0, .inr (1, [.ref e0, .int on, .ref ow, .ref ov, .ref os, .int ol, .int om, .int ok])), (ow, .inr (2, [.ref owa, .int osz])), (owa, .inl (cI, 40, .inl of)), (os, .inl (cI, 11, .inl osf))] H → va_S (fun _ => False) s.heap H locs → lv_has ls 10 [(7, .int ii), (6, .ref o0), (4, .long dd), (0, .ref r0), (1, .long d0), (3, .int h0)] → W p l e (headSpec (ws_ yX3_joinedHearth cX3_joinedHearth 10 (Option.some .long)) ({ frames := 4, cells := 0, slots := 0, locals := 87 })).room s m ([.ref r0, .long d0, .int h0] : List Value).toArray below meth c H locs 0 0 (MQ below (va_Ql (fun r (_ : Unit) => (r = hdF lo Hh L ok d0)) (fun _ _ => True) (fun _ => False)) ([.ref r0, .long d0, .int h0] : List Value).toArray s 0 0 (fun _ => False)) (F0 m 43 ls []) := by
          intro fu
          induction fu with
          | zero => intros; omega
          | succ fu ih43 =>
            intro i ii dd H locs ls hfu hi hle hd hP hS hl
            refine lv_iload hx hb dX3_joinedHearth_43 (lv_at hl 0 rfl) ?_
            refine lz_bipush hx hb (by decide) dX3_joinedHearth_45 (fun x_45 v_45 => ?_)
            refine lz_icmp_ge (tgt := 106) hx hb hi v_45 ⟨by omega, by omega⟩ dX3_joinedHearth_47 (by decide) (fun c_47 => ?_) (fun c_47 => ?_)
            · have hid := hdF_of hd (by omega)
              refine lv_lload hx hb dX3_joinedHearth_106 (lv_at hl 2 rfl) ?_
              exact W.lret (v := dd) hx hb hr (fun t ht hW => ⟨⟨dd, (), rfl, hid, trivial⟩, hS.F ht⟩) hS.2.2 dX3_joinedHearth_108
            · refine lv_aload hx hb dX3_joinedHearth_50 (lv_at hl 1 rfl) ?_
              refine lv_iload hx hb dX3_joinedHearth_52 (lv_at hl 0 rfl) ?_
              refine cr_i (va_runV (As := [.int ii]) (rest := []) ⟨hx, hb, hml, hown, hts⟩ (k_X1_sizeOf l D cI cZ cJ cK _ o0 ii e0 on ow ov os ol om ok osf (cnt (ka lo Hh) L) (↑i) (hsz) (hi.trans (congrArg iI (by omega))) (by omega)) (cwV 1 hts (gV qw309 qw228 qw229 qw12 qw230) rfl rfl rfl (by decide +kernel) ⟨Nat.le_of_ble_eq_true rfl, Nat.le_of_ble_eq_true rfl⟩) (pv (ci := 1) (r := (RX1, TX1, 8)) (q0 := 3) hP hD hK hT hZ hS [3, 6] rfl rfl rfl rfl) rfl rfl hl.1 rfl (lv_room (Nat.le_of_ble_eq_true rfl)) dX3_joinedHearth_54 ⟨Nat.le_of_ble_eq_true rfl, Nat.le_of_ble_eq_true rfl⟩) hS hP (fun x_54 H locs hw_54 hP hS => ?_)
              have hw_54 : (x_54 = iI (szA (cnt (ka lo Hh) L) (↑i))) := hw_54
              have v_54 := hw_54
              have hci := psum_at (cnt (ka lo Hh) L) (a := i) (b := 11) (by omega)
              have hp11 := hsz.2
              refine lv_istore (lv' := [(8, .int x_54), (7, .int ii), (6, .ref o0), (4, .long dd), (0, .ref r0), (1, .long d0), (3, .int h0)]) hx hb dX3_joinedHearth_57 hl (by decide) rfl (fun ls hl => ?_)
              refine lv_lload hx hb dX3_joinedHearth_59 (lv_at hl 3 rfl) ?_
              refine lv_iload hx hb dX3_joinedHearth_61 (lv_at hl 0 rfl) ?_
              refine cr_l (va_runS (As := [.long dd, .int x_54]) (rest := []) ⟨hx, hb, hml, hown, hts⟩ (k_X3_joined l D cI cZ cJ cK _ dd x_54 ) (va_cwS 2 hts (gS qw449 qw450 qw10 qw451) rfl rfl rfl (by decide +kernel) ⟨Nat.le_of_ble_eq_true rfl, Nat.le_of_ble_eq_true rfl⟩) (ps hP hD hK hT hZ hS [] rfl rfl) rfl rfl hl.1 rfl (lv_room (Nat.le_of_ble_eq_true rfl)) dX3_joinedHearth_63 ⟨Nat.le_of_ble_eq_true rfl, Nat.le_of_ble_eq_true rfl⟩) hS hP (fun x_63 H locs hw_63 hP hS => ?_)
              have hw_63 : (x_63 = jn dd x_54) := hw_63
              have v_63 := hw_63
              refine lv_lstore (lv' := [(4, .long x_63), (8, .int x_54), (7, .int ii), (6, .ref o0), (0, .ref r0), (1, .long d0), (3, .int h0)]) hx hb dX3_joinedHearth_66 hl (by decide) rfl (fun ls hl => ?_)
              refine lz_iconst hx hb dX3_joinedHearth_68 (fun x_68 v_68 => ?_)
              refine lv_istore (lv' := [(9, .int x_68), (4, .long x_63), (8, .int x_54), (7, .int ii), (6, .ref o0), (0, .ref r0), (1, .long d0), (3, .int h0)]) hx hb dX3_joinedHearth_69 hl (by decide) rfl (fun ls hl => ?_)
              have key71 : ∀ (fu : Nat) (j : Nat) (jj : Int32) (de : Int64) (H : Heap) (locs : List Loc) (ls : Array Slot), (cnt (ka lo Hh) L) i + 1 - j < fu → (jj = iI (↑j)) → (j ≤ (cnt (ka lo Hh) L) i) → (de = dgN ((bkV (cnt (ka lo Hh) L) L) i) dd (j + 1)) → va_P D vwCl [(r0, .inr (3, [.ref e0, .ref z0, .ref o0, .ref t0, .int qn])), (e0, .inr (0, [.ref eh, .ref eo, .ref ev, .ref er, .int el])), (eh, .inl (cI, 40, .inl fh)), (o0, .inr (1, [.ref e0, .int on, .ref ow, .ref ov, .ref os, .int ol, .int om, .int ok])), (ow, .inr (2, [.ref owa, .int osz])), (owa, .inl (cI, 40, .inl of)), (os, .inl (cI, 11, .inl osf))] H → va_S (fun _ => False) s.heap H locs → lv_has ls 10 [(9, .int jj), (4, .long de), (8, .int x_54), (7, .int ii), (6, .ref o0), (0, .ref r0), (1, .long d0), (3, .int h0)] → W p l e (headSpec (ws_ yX3_joinedHearth cX3_joinedHearth 10 (Option.some .long)) ({ frames := 4, cells := 0, slots := 0, locals := 87 })).room s m ([.ref r0, .long d0, .int h0] : List Value).toArray below meth c H locs 0 0 (MQ below (va_Ql (fun r (_ : Unit) => (r = hdF lo Hh L ok d0)) (fun _ _ => True) (fun _ => False)) ([.ref r0, .long d0, .int h0] : List Value).toArray s 0 0 (fun _ => False)) (F0 m 71 ls []) := by
                intro fu
                induction fu with
                | zero => intros; omega
                | succ fu ih71 =>
                  intro j jj de H locs ls hfu hj hje he hP hS hl
                  refine lv_iload hx hb dX3_joinedHearth_71 (lv_at hl 0 rfl) ?_
                  refine lv_iload hx hb dX3_joinedHearth_73 (lv_at hl 2 rfl) ?_
                  refine lz_icmp_ge (tgt := 100) hx hb hj (v_54.trans (congrArg iI (szA_nat _ _))) ⟨by omega, by omega⟩ dX3_joinedHearth_75 (by decide) (fun c_75 => ?_) (fun c_75 => ?_)
                  · refine lz_iinc (lv2 := fun z => [(7, .int z), (9, .int jj), (4, .long de), (8, .int x_54), (6, .ref o0), (0, .ref r0), (1, .long d0), (3, .int h0)]) hx hb dX3_joinedHearth_100 hl (k := 3) rfl hi (by decide) (fun _ => rfl) (fun x_100 ls v_100 hl => ?_)
                    refine lv_goto (tgt := 43) hx hb dX3_joinedHearth_103 (by decide) ?_
                    exact ih43 (i + 1) x_100 de _ _ _ (by omega) (v_100.trans (congrArg iI (by omega))) (by omega) (by rw [he, show j = (cnt (ka lo Hh) L) i by omega, hd]; exact (dgM_s _ _ _ _).symm) hP hS (lv_sub hl [0, 4, 2, 5, 6, 7] rfl)
                  · refine lv_lload hx hb dX3_joinedHearth_78 (lv_at hl 1 rfl) ?_
                    refine lv_aload hx hb dX3_joinedHearth_80 (lv_at hl 4 rfl) ?_
                    refine lv_iload hx hb dX3_joinedHearth_82 (lv_at hl 3 rfl) ?_
                    refine lv_iload hx hb dX3_joinedHearth_84 (lv_at hl 0 rfl) ?_
                    refine cr_i (va_runV (As := [.int ii, .int jj]) (rest := [.long de]) ⟨hx, hb, hml, hown, hts⟩ (k_X1_emberAt l D cI cZ cJ cK _ o0 ii jj e0 on ow ov os ol om ok owa osz of osf (cnt (ka lo Hh) L) L i j (hrow) (hsz) (hi.trans (congrArg iI (by omega))) (hj.trans (congrArg iI (by omega))) (by omega) (by omega) (cnt_psum_le _ _ _)) (cwV 2 hts (gV qw315 qw316 qw317 qw12 qw318) rfl rfl rfl (by decide +kernel) ⟨Nat.le_of_ble_eq_true rfl, Nat.le_of_ble_eq_true rfl⟩) (pv (ci := 1) (r := (RX1, TX1, 8)) (q0 := 3) hP hD hK hT hZ hS [3, 4, 5, 6] rfl rfl rfl rfl) rfl rfl hl.1 rfl (lv_room (Nat.le_of_ble_eq_true rfl)) dX3_joinedHearth_86 ⟨Nat.le_of_ble_eq_true rfl, Nat.le_of_ble_eq_true rfl⟩) hS hP (fun x_86 H locs hw_86 hP hS => ?_)
                    have hw_86 : (x_86 = iI (↑(L.getD (psum (cnt (ka lo Hh) L) i + j) 0))) := hw_86
                    have v_86 := hw_86
                    refine cr_l (va_runS (As := [.long de, .int x_86]) (rest := []) ⟨hx, hb, hml, hown, hts⟩ (k_X3_joined l D cI cZ cJ cK _ de x_86 ) (va_cwS 2 hts (gS qw449 qw450 qw10 qw451) rfl rfl rfl (by decide +kernel) ⟨Nat.le_of_ble_eq_true rfl, Nat.le_of_ble_eq_true rfl⟩) (ps hP hD hK hT hZ hS [] rfl rfl) rfl rfl hl.1 rfl (lv_room (Nat.le_of_ble_eq_true rfl)) dX3_joinedHearth_89 ⟨Nat.le_of_ble_eq_true rfl, Nat.le_of_ble_eq_true rfl⟩) hS hP (fun x_89 H locs hw_89 hP hS => ?_)
                    have hw_89 : (x_89 = jn de x_86) := hw_89
                    have v_89 := hw_89
                    refine lv_lstore (lv' := [(4, .long x_89), (9, .int jj), (8, .int x_54), (7, .int ii), (6, .ref o0), (0, .ref r0), (1, .long d0), (3, .int h0)]) hx hb dX3_joinedHearth_92 hl (by decide) rfl (fun ls hl => ?_)
                    refine lz_iinc (lv2 := fun z => [(9, .int z), (4, .long x_89), (8, .int x_54), (7, .int ii), (6, .ref o0), (0, .ref r0), (1, .long d0), (3, .int h0)]) hx hb dX3_joinedHearth_94 hl (k := 1) rfl hj (by decide) (fun _ => rfl) (fun x_94 ls v_94 hl => ?_)
                    refine lv_goto (tgt := 71) hx hb dX3_joinedHearth_97 (by decide) ?_
                    exact ih71 (j + 1) x_94 x_89 _ _ _ (by omega) (v_94.trans (congrArg iI (by omega))) (by omega) (by rw [v_89, v_86, he]; exact (dgN_s _ _ _).symm) hP hS (lv_sub hl [0, 1, 2, 3, 4, 5, 6, 7] rfl)
              exact key71 _ 0 x_68 x_63 _ _ _ (Nat.lt_succ_self _) (v_68.trans (congrArg iI (by omega))) (by omega) (by rw [v_63, v_54, szA_nat]; rfl) hP hS (lv_sub hl [0, 1, 2, 3, 4, 5, 6, 7] rfl)
        exact key43 _ 0 x_40 dd _ _ _ (Nat.lt_succ_self _) (v_40.trans (congrArg iI (by omega))) (by omega) (by rw [hd, show i = 6 by omega]; rfl) hP hS (lv_sub hl [0, 1, 2, 3, 4, 5] rfl)
      · refine lv_lload hx hb dX3_joinedHearth_13 (lv_at hl 1 rfl) ?_
        refine lv_aload_n hx hb dX3_joinedHearth_15 rfl (lv_at hl 2 rfl) ?_
        refine lv_iload_n hx hb dX3_joinedHearth_16 rfl (lv_at hl 4 rfl) ?_
        refine lv_iload hx hb dX3_joinedHearth_17 (lv_at hl 0 rfl) ?_
        refine cr_i (va_runV (As := [.int h0, .int ii]) (rest := [.long dd]) ⟨hx, hb, hml, hown, hts⟩ (k_X3_about_1 l D cI cZ cJ cK _ r0 h0 ii e0 z0 o0 t0 qn eh eo ev er el fh on ow ov os ol om ok owa osz of osf lo n Hh L (↑i) (hem) (hhe) (hhv.trans (congrArg iI (by omega))) (hok) (hi.trans (congrArg iI (by omega))) (by omega)) (cwV 2 hts (gV qw457 qw345 qw346 qw10 qw347) rfl rfl rfl (by decide +kernel) ⟨Nat.le_of_ble_eq_true rfl, Nat.le_of_ble_eq_true rfl⟩) (pv (ci := 3) (r := (RX3, TX3, 5)) (q0 := 0) hP hD hK hT hZ hS [0, 1, 2, 3, 4, 5, 6] rfl rfl rfl rfl) rfl rfl hl.1 rfl (lv_room (Nat.le_of_ble_eq_true rfl)) dX3_joinedHearth_19 ⟨Nat.le_of_ble_eq_true rfl, Nat.le_of_ble_eq_true rfl⟩) hS hP (fun x_19 H locs hw_19 hP hS => ?_)
        have hw_19 : (x_19 = abV lo Hh L ok (↑i)) := hw_19
        have v_19 := hw_19
        refine cr_l (va_runS (As := [.long dd, .int x_19]) (rest := []) ⟨hx, hb, hml, hown, hts⟩ (k_X3_joined l D cI cZ cJ cK _ dd x_19 ) (va_cwS 2 hts (gS qw449 qw450 qw10 qw451) rfl rfl rfl (by decide +kernel) ⟨Nat.le_of_ble_eq_true rfl, Nat.le_of_ble_eq_true rfl⟩) (ps hP hD hK hT hZ hS [] rfl rfl) rfl rfl hl.1 rfl (lv_room (Nat.le_of_ble_eq_true rfl)) dX3_joinedHearth_22 ⟨Nat.le_of_ble_eq_true rfl, Nat.le_of_ble_eq_true rfl⟩) hS hP (fun x_22 H locs hw_22 hP hS => ?_)
        have hw_22 : (x_22 = jn dd x_19) := hw_22
        have v_22 := hw_22
        refine lv_lstore (lv' := [(4, .long x_22), (6, .int ii), (0, .ref r0), (1, .long d0), (3, .int h0)]) hx hb dX3_joinedHearth_25 hl (by decide) rfl (fun ls hl => ?_)
        refine lz_iinc (lv2 := fun z => [(6, .int z), (4, .long x_22), (0, .ref r0), (1, .long d0), (3, .int h0)]) hx hb dX3_joinedHearth_27 hl (k := 1) rfl hi (by decide) (fun _ => rfl) (fun x_27 ls v_27 hl => ?_)
        refine lv_goto (tgt := 6) hx hb dX3_joinedHearth_30 (by decide) ?_
        exact ih6 (i + 1) x_27 x_22 _ _ _ (by omega) (v_27.trans (congrArg iI (by omega))) (by omega) (by rw [v_22, v_19, hd]; exact (dgN_s _ _ _).symm) hP hS (lv_sub hl [0, 1, 2, 3, 4] rfl)
  exact key6 _ 0 x_3 d0 _ _ _ (Nat.lt_succ_self _) (v_3.trans (congrArg iI (by omega))) (by omega) (rfl) hP hS (lv_sub hl [0, 1, 2, 3, 4] rfl)
set_option maxHeartbeats 4000000 in
set_option maxRecDepth 100000 in
theorem k_X3_digest (l : Launch) (D : va_G) (cI cZ cJ cK : ClassId) (hz9 : Nat) (r0 : Nat) (e0 : Nat) (z0 : Nat) (o0 : Nat) (t0 : Nat) (qn : Int32) (eh : Nat) (eo : Nat) (ev : Nat) (er : Nat) (el : Int32) (fh : Nat → Int32) (fo : Nat → Int32) (fm : Nat → Int32) (fr : Nat → Int32) (zn : Int32) (zw : Nat) (zv : Nat) (zs : Nat) (zl : Int32) (zm : Int32) (zk : Int32) (zwa : Nat) (zsz : Int32) (zf : Nat → Int32) (zsf : Nat → Int32) (on : Int32) (ow : Nat) (ov : Nat) (os : Nat) (ol : Int32) (om : Int32) (ok : Int32) (owa : Nat) (osz : Int32) (of : Nat → Int32) (osf : Nat → Int32) (n lo0 lo1 : Nat) (Hh : Nat → Nat) (L0 L1 : List Nat) (av rv : Nat → Int) (hem : embIs el fh n Hh) (hh0 : heaIs zl zsz zf zsf lo0 n Hh L0) (hh1 : heaIs ol osz of osf lo1 n Hh L1) (ho0 : heaOk lo0 Hh L0) (ho1 : heaOk lo1 Hh L1) (hat : ∀ i, i < n → fo i = iI (av i) ∧ (-1 ≤ av i ∧ av i ≤ 1)) (hrv : ∀ i, i < n → fr i = iI (rv i) ∧ (rv i = 0 ∨ rv i = 1)) : Met l yX3_digest (ws_ yX3_digest cX3_digest 5 (Option.some .long)) ({ frames := 5, cells := 0, slots := 0, locals := 116 }) (va_Pc [.ref r0] (wPre D cI cZ cJ cK hz9 [(r0, .inr (3, [.ref e0, .ref z0, .ref o0, .ref t0, .int qn])), (e0, .inr (0, [.ref eh, .ref eo, .ref ev, .ref er, .int el])), (eh, .inl (cI, 40, .inl fh)), (eo, .inl (cI, 40, .inl fo)), (ev, .inl (cI, 40, .inl fm)), (er, .inl (cZ, 40, .inl fr)), (z0, .inr (1, [.ref e0, .int zn, .ref zw, .ref zv, .ref zs, .int zl, .int zm, .int zk])), (zw, .inr (2, [.ref zwa, .int zsz])), (zwa, .inl (cI, 40, .inl zf)), (zs, .inl (cI, 11, .inl zsf)), (o0, .inr (1, [.ref e0, .int on, .ref ow, .ref ov, .ref os, .int ol, .int om, .int ok])), (ow, .inr (2, [.ref owa, .int osz])), (owa, .inl (cI, 40, .inl of)), (os, .inl (cI, 11, .inl osf))])) (va_Ql (fun r (_ : Unit) => (r = diF n lo0 lo1 Hh L0 L1 av rv fm (zm + om) zk ok (zk + ok) qn)) (fun _ _ => True) (fun _ => False)) 0 0 (fun _ => False) := by
  refine Met.ofW (cc := cX3_digest) (maxL := 5) (ret := (Option.some .long)) (by decide) rfl ?_
  intro p e s m args below meth c s₁ hBd hml hv
  obtain ⟨rfl, hsz, hP, hD, hK, hT, hZ⟩ := hv
  have hx := hBd.exec
  have hb := hBd.bytes
  have hr := hBd.returns
  have hts : ∀ w ∈ lw_G, w.before _ s = true := fun w h => atoms_spec (ws := (ws_ yX3_digest cX3_digest 5 (Option.some .long))) hBd.pre w (List.mem_cons_of_mem _ h)
  have hown : s.vm.findClass RX3 = some m.cls := findClass_of_methodNamed hBd.named
  have hlocks := hBd.notSynchronized
  subst hsz
  have hS : va_S (fun _ => False) s.heap s.heap [] := va_S.rf
  have hl := lv_entry ([.ref r0]) (n := 5) (Nat.le_of_ble_eq_true rfl)
  rw [lg_entry_eq]
  generalize (lg_sl ([.ref r0]) ++ List.replicate (5 - (lg_sl ([.ref r0])).length) Slot.unset).toArray = ls at hl ⊢
  have hl : lv_has ls 5 [(0, .ref r0)] := hl
  have hP : va_P D vwCl [(r0, .inr (3, [.ref e0, .ref z0, .ref o0, .ref t0, .int qn])), (e0, .inr (0, [.ref eh, .ref eo, .ref ev, .ref er, .int el])), (eh, .inl (cI, 40, .inl fh)), (eo, .inl (cI, 40, .inl fo)), (ev, .inl (cI, 40, .inl fm)), (er, .inl (cZ, 40, .inl fr)), (z0, .inr (1, [.ref e0, .int zn, .ref zw, .ref zv, .ref zs, .int zl, .int zm, .int zk])), (zw, .inr (2, [.ref zwa, .int zsz])), (zwa, .inl (cI, 40, .inl zf)), (zs, .inl (cI, 11, .inl zsf)), (o0, .inr (1, [.ref e0, .int on, .ref ow, .ref ov, .ref os, .int ol, .int om, .int ok])), (ow, .inr (2, [.ref owa, .int osz])), (owa, .inl (cI, 40, .inl of)), (os, .inl (cI, 11, .inl osf))] s.heap := hP
  obtain ⟨hn, hn4, hfh⟩ := id hem
  have hw0 := hh0.2.2.1
  have hw1 := hh1.2.2.1
  refine lv_ldc2 (v := (1489 : Int64)) hx hb hown (hts _ qw447) dX3_digest_0 ?_
  refine lv_topl (fun x_0 e_0 => ?_)
  refine lv_lstore_n (lv' := [(1, .long x_0), (0, .ref r0)]) hx hb dX3_digest_3 rfl hl (by decide) rfl (fun ls hl => ?_)
  refine lz_iconst hx hb dX3_digest_4 (fun x_4 v_4 => ?_)
  refine lv_istore_n (lv' := [(3, .int x_4), (1, .long x_0), (0, .ref r0)]) hx hb dX3_digest_5 rfl hl (by decide) rfl (fun ls hl => ?_)
  have key6 : ∀ (fu : Nat) (i : Nat) (ii : Int32) (dd : Int64) (H : Heap) (locs : List Loc) (ls : Array Slot), 6 - i < fu → (ii = iI (↑i)) → (i ≤ 5) → (dd = dgN (coF n (L0.length + L1.length) (zm + om) (zk + ok) qn) 1489 i) → va_P D vwCl [(r0, .inr (3, [.ref e0, .ref z0, .ref o0, .ref t0, .int qn])), (e0, .inr (0, [.ref eh, .ref eo, .ref ev, .ref er, .int el])), (eh, .inl (cI, 40, .inl fh)), (eo, .inl (cI, 40, .inl fo)), (ev, .inl (cI, 40, .inl fm)), (er, .inl (cZ, 40, .inl fr)), (z0, .inr (1, [.ref e0, .int zn, .ref zw, .ref zv, .ref zs, .int zl, .int zm, .int zk])), (zw, .inr (2, [.ref zwa, .int zsz])), (zwa, .inl (cI, 40, .inl zf)), (zs, .inl (cI, 11, .inl zsf)), (o0, .inr (1, [.ref e0, .int on, .ref ow, .ref ov, .ref os, .int ol, .int om, .int ok])), (ow, .inr (2, [.ref owa, .int osz])), (owa, .inl (cI, 40, .inl of)), (os, .inl (cI, 11, .inl osf))] H → va_S (fun _ => False) s.heap H locs → lv_has ls 5 [(3, .int ii), (1, .long dd), (0, .ref r0)] → W p l e (headSpec (ws_ yX3_digest cX3_digest 5 (Option.some .long)) ({ frames := 5, cells := 0, slots := 0, locals := 116 })).room s m ([.ref r0] : List Value).toArray below meth c H locs 0 0 (MQ below (va_Ql (fun r (_ : Unit) => (r = diF n lo0 lo1 Hh L0 L1 av rv fm (zm + om) zk ok (zk + ok) qn)) (fun _ _ => True) (fun _ => False)) ([.ref r0] : List Value).toArray s 0 0 (fun _ => False)) (F0 m 6 ls []) := by
    intro fu
    induction fu with
    | zero => intros; omega
    | succ fu ih6 =>
      intro i ii dd H locs ls hfu hi hle hd hP hS hl
      refine lv_iload_n hx hb dX3_digest_6 rfl (lv_at hl 0 rfl) ?_
      refine lz_iconst hx hb dX3_digest_7 (fun x_7 v_7 => ?_)
      refine lz_icmp_ge (tgt := 27) hx hb hi v_7 ⟨by omega, by omega⟩ dX3_digest_8 (by decide) (fun c_8 => ?_) (fun c_8 => ?_)
      · have hd5 : dd = (dgN (coF n (L0.length + L1.length) (zm + om) (zk + ok) qn) 1489 5) := by rw [hd, show i = 5 by omega]
        refine lz_iconst hx hb dX3_digest_27 (fun x_27 v_27 => ?_)
        refine lv_istore_n (lv' := [(3, .int x_27), (1, .long dd), (0, .ref r0)]) hx hb dX3_digest_28 rfl hl (by decide) rfl (fun ls hl => ?_)
        refine lv_iload_n hx hb dX3_digest_29 rfl (lv_at hl 0 rfl) ?_
        refine lz_iconst hx hb dX3_digest_30 (fun x_30 v_30 => ?_)
        refine lz_icmp_ge (tgt := 47) hx hb v_27 v_30 ⟨by omega, by omega⟩ dX3_digest_31 (by decide) (fun c_31 => ?_) (fun c_31 => ?_)
        · exfalso; omega
        · refine lv_aload_n hx hb dX3_digest_34 rfl (lv_at hl 2 rfl) ?_
          refine lv_lload_n hx hb dX3_digest_35 rfl (lv_at hl 1 rfl) ?_
          refine lv_iload_n hx hb dX3_digest_36 rfl (lv_at hl 0 rfl) ?_
          refine cr_l (va_runV (As := [.long dd, .int x_27]) (rest := []) ⟨hx, hb, hml, hown, hts⟩ (k_X3_joinedHearth_0 l D cI cZ cJ cK _ r0 dd x_27 e0 z0 o0 t0 qn eh eo ev er el fh zn zw zv zs zl zm zk zwa zsz zf zsf lo0 n Hh L0 (hem) (hh0) (v_27.trans (congrArg iI (by omega))) (ho0)) (cwV 2 hts (gV qw453 qw455 qw7 qw10 qw456) rfl rfl rfl (by decide +kernel) ⟨Nat.le_of_ble_eq_true rfl, Nat.le_of_ble_eq_true rfl⟩) (pv (ci := 3) (r := (RX3, TX3, 5)) (q0 := 0) hP hD hK hT hZ hS [0, 1, 2, 6, 7, 8, 9] rfl rfl rfl rfl) rfl rfl hl.1 rfl (lv_room (Nat.le_of_ble_eq_true rfl)) dX3_digest_37 ⟨Nat.le_of_ble_eq_true rfl, Nat.le_of_ble_eq_true rfl⟩) hS hP (fun x_37 H locs hw_37 hP hS => ?_)
          have hw_37 : (x_37 = hdF lo0 Hh L0 zk dd) := hw_37
          have v_37 := hw_37
          refine lv_lstore_n (lv' := [(1, .long x_37), (3, .int x_27), (0, .ref r0)]) hx hb dX3_digest_40 rfl hl (by decide) rfl (fun ls hl => ?_)
          refine lz_iinc (lv2 := fun z => [(3, .int z), (1, .long x_37), (0, .ref r0)]) hx hb dX3_digest_41 hl (k := 1) rfl v_27 (by decide) (fun _ => rfl) (fun x_41 ls v_41 hl => ?_)
          refine lv_goto (tgt := 29) hx hb dX3_digest_44 (by decide) ?_
          refine lv_iload_n hx hb dX3_digest_29 rfl (lv_at hl 0 rfl) ?_
          refine lz_iconst hx hb dX3_digest_30 (fun x_30_2 v_30_2 => ?_)
          refine lz_icmp_ge (tgt := 47) hx hb v_41 v_30_2 ⟨by omega, by omega⟩ dX3_digest_31 (by decide) (fun c_31_2 => ?_) (fun c_31_2 => ?_)
          · exfalso; omega
          · refine lv_aload_n hx hb dX3_digest_34 rfl (lv_at hl 2 rfl) ?_
            refine lv_lload_n hx hb dX3_digest_35 rfl (lv_at hl 1 rfl) ?_
            refine lv_iload_n hx hb dX3_digest_36 rfl (lv_at hl 0 rfl) ?_
            refine cr_l (va_runV (As := [.long x_37, .int x_41]) (rest := []) ⟨hx, hb, hml, hown, hts⟩ (k_X3_joinedHearth_1 l D cI cZ cJ cK _ r0 x_37 x_41 e0 z0 o0 t0 qn eh eo ev er el fh on ow ov os ol om ok owa osz of osf lo1 n Hh L1 (hem) (hh1) (v_41.trans (congrArg iI (by omega))) (ho1)) (cwV 2 hts (gV qw453 qw455 qw7 qw10 qw456) rfl rfl rfl (by decide +kernel) ⟨Nat.le_of_ble_eq_true rfl, Nat.le_of_ble_eq_true rfl⟩) (pv (ci := 3) (r := (RX3, TX3, 5)) (q0 := 0) hP hD hK hT hZ hS [0, 1, 2, 10, 11, 12, 13] rfl rfl rfl rfl) rfl rfl hl.1 rfl (lv_room (Nat.le_of_ble_eq_true rfl)) dX3_digest_37 ⟨Nat.le_of_ble_eq_true rfl, Nat.le_of_ble_eq_true rfl⟩) hS hP (fun x_37_2 H locs hw_37_2 hP hS => ?_)
            have hw_37_2 : (x_37_2 = hdF lo1 Hh L1 ok x_37) := hw_37_2
            have v_37_2 := hw_37_2
            refine lv_lstore_n (lv' := [(1, .long x_37_2), (3, .int x_41), (0, .ref r0)]) hx hb dX3_digest_40 rfl hl (by decide) rfl (fun ls hl => ?_)
            refine lz_iinc (lv2 := fun z => [(3, .int z), (1, .long x_37_2), (0, .ref r0)]) hx hb dX3_digest_41 hl (k := 1) rfl v_41 (by decide) (fun _ => rfl) (fun x_41_2 ls v_41_2 hl => ?_)
            refine lv_goto (tgt := 29) hx hb dX3_digest_44 (by decide) ?_
            refine lv_iload_n hx hb dX3_digest_29 rfl (lv_at hl 0 rfl) ?_
            refine lz_iconst hx hb dX3_digest_30 (fun x_30_3 v_30_3 => ?_)
            refine lz_icmp_ge (tgt := 47) hx hb v_41_2 v_30_3 ⟨by omega, by omega⟩ dX3_digest_31 (by decide) (fun c_31_3 => ?_) (fun c_31_3 => ?_)
            · have hd9 : x_37_2 = (hdF lo1 Hh L1 ok (hdF lo0 Hh L0 zk (dgN (coF n (L0.length + L1.length) (zm + om) (zk + ok) qn) 1489 5))) := by rw [v_37_2, v_37, hd5]
              refine lz_iconst hx hb dX3_digest_47 (fun x_47 v_47 => ?_)
              refine lv_istore_n (lv' := [(3, .int x_47), (1, .long x_37_2), (0, .ref r0)]) hx hb dX3_digest_48 rfl hl (by decide) rfl (fun ls hl => ?_)
              have key49 : ∀ (fu : Nat) (i : Nat) (ii : Int32) (dd : Int64) (H : Heap) (locs : List Loc) (ls : Array Slot), n + 1 - i < fu → (ii = iI (↑i)) → (i ≤ n) → (dd = dgM (toF Hh av lo0 lo1 fm rv) (fun _ => 5) (hdF lo1 Hh L1 ok (hdF lo0 Hh L0 zk (dgN (coF n (L0.length + L1.length) (zm + om) (zk + ok) qn) 1489 5))) i) → va_P D vwCl [(r0, .inr (3, [.ref e0, .ref z0, .ref o0, .ref t0, .int qn])), (e0, .inr (0, [.ref eh, .ref eo, .ref ev, .ref er, .int el])), (eh, .inl (cI, 40, .inl fh)), (eo, .inl (cI, 40, .inl fo)), (ev, .inl (cI, 40, .inl fm)), (er, .inl (cZ, 40, .inl fr)), (z0, .inr (1, [.ref e0, .int zn, .ref zw, .ref zv, .ref zs, .int zl, .int zm, .int zk])), (zw, .inr (2, [.ref zwa, .int zsz])), (zwa, .inl (cI, 40, .inl zf)), (zs, .inl (cI, 11, .inl zsf)), (o0, .inr (1, [.ref e0, .int on, .ref ow, .ref ov, .ref os, .int ol, .int om, .int ok])), (ow, .inr (2, [.ref owa, .int osz])), (owa, .inl (cI, 40, .inl of)), (os, .inl (cI, 11, .inl osf))] H → va_S (fun _ => False) s.heap H locs → lv_has ls 5 [(3, .int ii), (1, .long dd), (0, .ref r0)] → W p l e (headSpec (ws_ yX3_digest cX3_digest 5 (Option.some .long)) ({ frames := 5, cells := 0, slots := 0, locals := 116 })).room s m ([.ref r0] : List Value).toArray below meth c H locs 0 0 (MQ below (va_Ql (fun r (_ : Unit) => (r = diF n lo0 lo1 Hh L0 L1 av rv fm (zm + om) zk ok (zk + ok) qn)) (fun _ _ => True) (fun _ => False)) ([.ref r0] : List Value).toArray s 0 0 (fun _ => False)) (F0 m 49 ls []) := by
                intro fu
                induction fu with
                | zero => intros; omega
                | succ fu ih49 =>
                  intro i ii dd H locs ls hfu hi hle hd hP hS hl
                  refine lv_iload_n hx hb dX3_digest_49 rfl (lv_at hl 0 rfl) ?_
                  refine lv_aload_n hx hb dX3_digest_50 rfl (lv_at hl 2 rfl) ?_
                  refine va_get (D := D) (ci := 3) (v := .ref e0) (C := RX3) (T := TX3) (N := 5) hx hb hts iX3 hown hK hP 0 rfl rfl 0 (by decide) (hts _ qw99) (fun _ h9 => h9) rfl dX3_digest_51 ?_
                  refine cr_i (va_runV (As := []) (rest := [.int ii]) ⟨hx, hb, hml, hown, hts⟩ (k_X0_lit l D cI cZ cJ cK _ e0 eh eo ev er el ) (cwV 0 hts (gV qw401 qw402 qw403 qw11 qw404) rfl rfl rfl (by decide +kernel) ⟨Nat.le_of_ble_eq_true rfl, Nat.le_of_ble_eq_true rfl⟩) (pv (ci := 0) (r := (RX0, TX0, 5)) (q0 := 1) hP hD hK hT hZ hS [1] rfl rfl rfl rfl) rfl rfl hl.1 rfl (lv_room (Nat.le_of_ble_eq_true rfl)) dX3_digest_54 ⟨Nat.le_of_ble_eq_true rfl, Nat.le_of_ble_eq_true rfl⟩) hS hP (fun x_54 H locs hw_54 hP hS => ?_)
                  have hw_54 : (x_54 = el) := hw_54
                  have v_54 := hw_54
                  refine lz_icmp_ge (tgt := 93) hx hb hi (v_54.trans hn) ⟨by omega, by omega⟩ dX3_digest_57 (by decide) (fun c_57 => ?_) (fun c_57 => ?_)
                  · refine lv_lload_n hx hb dX3_digest_93 rfl (lv_at hl 1 rfl) ?_
                    have hin : i = n := by omega
                    subst hin
                    exact W.lret (v := dd) hx hb hr (fun t ht hW => ⟨⟨dd, (), rfl, hd, trivial⟩, hS.F ht⟩) hS.2.2 dX3_digest_94
                  · refine lz_iconst hx hb dX3_digest_60 (fun x_60 v_60 => ?_)
                    refine lv_istore (lv' := [(4, .int x_60), (3, .int ii), (1, .long dd), (0, .ref r0)]) hx hb dX3_digest_61 hl (by decide) rfl (fun ls hl => ?_)
                    have key63 : ∀ (fu : Nat) (j : Nat) (jj : Int32) (de : Int64) (H : Heap) (locs : List Loc) (ls : Array Slot), 6 - j < fu → (jj = iI (↑j)) → (j ≤ 5) → (de = dgN ((toF Hh av lo0 lo1 fm rv) i) dd j) → va_P D vwCl [(r0, .inr (3, [.ref e0, .ref z0, .ref o0, .ref t0, .int qn])), (e0, .inr (0, [.ref eh, .ref eo, .ref ev, .ref er, .int el])), (eh, .inl (cI, 40, .inl fh)), (eo, .inl (cI, 40, .inl fo)), (ev, .inl (cI, 40, .inl fm)), (er, .inl (cZ, 40, .inl fr)), (z0, .inr (1, [.ref e0, .int zn, .ref zw, .ref zv, .ref zs, .int zl, .int zm, .int zk])), (zw, .inr (2, [.ref zwa, .int zsz])), (zwa, .inl (cI, 40, .inl zf)), (zs, .inl (cI, 11, .inl zsf)), (o0, .inr (1, [.ref e0, .int on, .ref ow, .ref ov, .ref os, .int ol, .int om, .int ok])), (ow, .inr (2, [.ref owa, .int osz])), (owa, .inl (cI, 40, .inl of)), (os, .inl (cI, 11, .inl osf))] H → va_S (fun _ => False) s.heap H locs → lv_has ls 5 [(4, .int jj), (3, .int ii), (1, .long de), (0, .ref r0)] → W p l e (headSpec (ws_ yX3_digest cX3_digest 5 (Option.some .long)) ({ frames := 5, cells := 0, slots := 0, locals := 116 })).room s m ([.ref r0] : List Value).toArray below meth c H locs 0 0 (MQ below (va_Ql (fun r (_ : Unit) => (r = diF n lo0 lo1 Hh L0 L1 av rv fm (zm + om) zk ok (zk + ok) qn)) (fun _ _ => True) (fun _ => False)) ([.ref r0] : List Value).toArray s 0 0 (fun _ => False)) (F0 m 63 ls []) := by
                      intro fu
                      induction fu with
                      | zero => intros; omega
                      | succ fu ih63 =>
                        intro j jj de H locs ls hfu hj hje he hP hS hl
                        refine lv_iload hx hb dX3_digest_63 (lv_at hl 0 rfl) ?_
                        refine lz_iconst hx hb dX3_digest_65 (fun x_65 v_65 => ?_)
                        refine lz_icmp_ge (tgt := 87) hx hb hj v_65 ⟨by omega, by omega⟩ dX3_digest_66 (by decide) (fun c_66 => ?_) (fun c_66 => ?_)
                        · refine lz_iinc (lv2 := fun z => [(3, .int z), (4, .int jj), (1, .long de), (0, .ref r0)]) hx hb dX3_digest_87 hl (k := 1) rfl hi (by decide) (fun _ => rfl) (fun x_87 ls v_87 hl => ?_)
                          refine lv_goto (tgt := 49) hx hb dX3_digest_90 (by decide) ?_
                          exact ih49 (i + 1) x_87 de _ _ _ (by omega) (v_87.trans (congrArg iI (by omega))) (by omega) (by rw [he, show j = 5 by omega, hd]; exact (dgM_s _ _ _ _).symm) hP hS (lv_sub hl [0, 2, 3] rfl)
                        · refine lv_lload_n hx hb dX3_digest_69 rfl (lv_at hl 2 rfl) ?_
                          refine lv_aload_n hx hb dX3_digest_70 rfl (lv_at hl 3 rfl) ?_
                          refine lv_iload_n hx hb dX3_digest_71 rfl (lv_at hl 1 rfl) ?_
                          refine lv_iload hx hb dX3_digest_72 (lv_at hl 0 rfl) ?_
                          refine cr_i (va_runV (As := [.int ii, .int jj]) (rest := [.long de]) ⟨hx, hb, hml, hown, hts⟩ (k_X3_told_a l D cI cZ cJ cK _ r0 ii jj e0 z0 o0 t0 qn eh eo ev er el fh fo fm fr zn zw zv zs zl zm zk on ow ov os ol om ok n i lo0 lo1 Hh (av i) (rv i) (↑j) (hem) (⟨hh0.1, hh0.2.1⟩) (⟨hh1.1, hh1.2.1⟩) (hi.trans (congrArg iI (by omega))) (by omega) ((hat i (by omega)).1) ((hat i (by omega)).2) ((hrv i (by omega)).1) ((hrv i (by omega)).2) (hj.trans (congrArg iI (by omega))) (by omega)) (cwV 2 hts (gV qw458 qw370 qw371 qw10 qw372) rfl rfl rfl (by decide +kernel) ⟨Nat.le_of_ble_eq_true rfl, Nat.le_of_ble_eq_true rfl⟩) (pv (ci := 3) (r := (RX3, TX3, 5)) (q0 := 0) hP hD hK hT hZ hS [0, 1, 2, 3, 4, 5, 6, 10] rfl rfl rfl rfl) rfl rfl hl.1 rfl (lv_room (Nat.le_of_ble_eq_true rfl)) dX3_digest_74 ⟨Nat.le_of_ble_eq_true rfl, Nat.le_of_ble_eq_true rfl⟩) hS hP (fun x_74 H locs hw_74 hP hS => ?_)
                          have hw_74 : (x_74 = toV (Hh i) (av i) (bkA (av i) lo0 lo1 (Hh i)) (fm i) (rv i) (↑j)) := hw_74
                          have v_74 := hw_74
                          refine cr_l (va_runS (As := [.long de, .int x_74]) (rest := []) ⟨hx, hb, hml, hown, hts⟩ (k_X3_joined l D cI cZ cJ cK _ de x_74 ) (va_cwS 2 hts (gS qw449 qw450 qw10 qw451) rfl rfl rfl (by decide +kernel) ⟨Nat.le_of_ble_eq_true rfl, Nat.le_of_ble_eq_true rfl⟩) (ps hP hD hK hT hZ hS [] rfl rfl) rfl rfl hl.1 rfl (lv_room (Nat.le_of_ble_eq_true rfl)) dX3_digest_77 ⟨Nat.le_of_ble_eq_true rfl, Nat.le_of_ble_eq_true rfl⟩) hS hP (fun x_77 H locs hw_77 hP hS => ?_)
                          have hw_77 : (x_77 = jn de x_74) := hw_77
                          have v_77 := hw_77
                          refine lv_lstore_n (lv' := [(1, .long x_77), (4, .int jj), (3, .int ii), (0, .ref r0)]) hx hb dX3_digest_80 rfl hl (by decide) rfl (fun ls hl => ?_)
                          refine lz_iinc (lv2 := fun z => [(4, .int z), (1, .long x_77), (3, .int ii), (0, .ref r0)]) hx hb dX3_digest_81 hl (k := 1) rfl hj (by decide) (fun _ => rfl) (fun x_81 ls v_81 hl => ?_)
                          refine lv_goto (tgt := 63) hx hb dX3_digest_84 (by decide) ?_
                          exact ih63 (j + 1) x_81 x_77 _ _ _ (by omega) (v_81.trans (congrArg iI (by omega))) (by omega) (by rw [v_77, v_74, he]; exact (dgN_s _ _ _).symm) hP hS (lv_sub hl [0, 2, 1, 3] rfl)
                    exact key63 _ 0 x_60 dd _ _ _ (Nat.lt_succ_self _) (v_60.trans (congrArg iI (by omega))) (by omega) (rfl) hP hS (lv_sub hl [0, 1, 2, 3] rfl)
              exact key49 _ 0 x_47 x_37_2 _ _ _ (Nat.lt_succ_self _) (v_47.trans (congrArg iI (by omega))) (by omega) (hd9) hP hS (lv_sub hl [0, 1, 2] rfl)
            · exfalso; omega
      · refine lv_lload_n hx hb dX3_digest_11 rfl (lv_at hl 1 rfl) ?_
        refine lv_aload_n hx hb dX3_digest_12 rfl (lv_at hl 2 rfl) ?_
        refine lv_iload_n hx hb dX3_digest_13 rfl (lv_at hl 0 rfl) ?_
        refine cr_i (va_runV (As := [.int ii]) (rest := [.long dd]) ⟨hx, hb, hml, hown, hts⟩ (k_X3_count l D cI cZ cJ cK _ r0 ii e0 z0 o0 t0 qn eh eo ev er el zn zw zv zs zl zm zk zwa zsz on ow ov os ol om ok owa osz n L0.length L1.length (↑i) (hn) (hw0.1) (hw1.1) (hi.trans (congrArg iI (by omega))) (by omega)) (cwV 1 hts (gV qw448 qw398 qw399 qw10 qw400) rfl rfl rfl (by decide +kernel) ⟨Nat.le_of_ble_eq_true rfl, Nat.le_of_ble_eq_true rfl⟩) (pv (ci := 3) (r := (RX3, TX3, 5)) (q0 := 0) hP hD hK hT hZ hS [0, 1, 6, 7, 10, 11] rfl rfl rfl rfl) rfl rfl hl.1 rfl (lv_room (Nat.le_of_ble_eq_true rfl)) dX3_digest_14 ⟨Nat.le_of_ble_eq_true rfl, Nat.le_of_ble_eq_true rfl⟩) hS hP (fun x_14 H locs hw_14 hP hS => ?_)
        have hw_14 : (x_14 = coV n (L0.length + L1.length) (zm + om) (zk + ok) qn (↑i)) := hw_14
        have v_14 := hw_14
        refine cr_l (va_runS (As := [.long dd, .int x_14]) (rest := []) ⟨hx, hb, hml, hown, hts⟩ (k_X3_joined l D cI cZ cJ cK _ dd x_14 ) (va_cwS 2 hts (gS qw449 qw450 qw10 qw451) rfl rfl rfl (by decide +kernel) ⟨Nat.le_of_ble_eq_true rfl, Nat.le_of_ble_eq_true rfl⟩) (ps hP hD hK hT hZ hS [] rfl rfl) rfl rfl hl.1 rfl (lv_room (Nat.le_of_ble_eq_true rfl)) dX3_digest_17 ⟨Nat.le_of_ble_eq_true rfl, Nat.le_of_ble_eq_true rfl⟩) hS hP (fun x_17 H locs hw_17 hP hS => ?_)
        have hw_17 : (x_17 = jn dd x_14) := hw_17
        have v_17 := hw_17
        refine lv_lstore_n (lv' := [(1, .long x_17), (3, .int ii), (0, .ref r0)]) hx hb dX3_digest_20 rfl hl (by decide) rfl (fun ls hl => ?_)
        refine lz_iinc (lv2 := fun z => [(3, .int z), (1, .long x_17), (0, .ref r0)]) hx hb dX3_digest_21 hl (k := 1) rfl hi (by decide) (fun _ => rfl) (fun x_21 ls v_21 hl => ?_)
        refine lv_goto (tgt := 6) hx hb dX3_digest_24 (by decide) ?_
        exact ih6 (i + 1) x_21 x_17 _ _ _ (by omega) (v_21.trans (congrArg iI (by omega))) (by omega) (by rw [v_17, v_14, hd]; exact (dgN_s _ _ _).symm) hP hS (lv_sub hl [0, 1, 2] rfl)
  exact key6 _ 0 x_4 x_0 _ _ _ (Nat.lt_succ_self _) (v_4.trans (congrArg iI (by omega))) (by omega) (e_0) hP hS (lv_sub hl [0, 1, 2] rfl)
