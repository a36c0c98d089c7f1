set_option maxHeartbeats 4000000 in
set_option maxRecDepth 100000 in
theorem k_X4_isAhead (l : Launch) (D : va_G) (cI cZ cJ : ClassId) (hz9 : Nat) (s0 : Nat) (x0 : Int32) (y0 : Int32) (sh : Nat) (sa : Nat) (sc : Nat) (sv : Nat) (sr : Nat) (sl : Nat) (sk : Nat) (cg : Int32) (mt : Int32) (qn : Int32) (sw : Nat) (m0 : Nat) (th : Int32) (el : Int32) (m1 : Nat) (m2 : Nat) (gl : Nat → Int32) (fh : Nat → Int32) (fa : Nat → Int32) (fc : Nat → Int32) (n h x y : Nat) (Hh : Nat → Nat) (av : Nat → Int) (cm : Nat → Nat) (lo : Nat → Nat) (hem : embIs el fh n Hh) (hat : atIs fa n av) (hca : caIs fc n cm) (hlw : lowIs gl lo) (hh2 : h < 2) (hxv : x0 = iI ↑x) (hyv : y0 = iI ↑y) (hxn : x < n) (hyn : y < n) (hxh : av x = (↑h : Int)) (hyh : av y = (↑h : Int)) : Met l yX4_isAhead (ws_ yX4_isAhead cX4_isAhead 3 (Option.some .boolean)) ({ frames := 3, cells := 0, slots := 0, locals := 64 }) (va_Pc [.ref s0, .int x0, .int y0] (wPre D cI cZ cJ hz9 [(s0, .inr (4, [.ref sh, .ref sa, .ref sc, .ref sv, .ref sr, .ref sl, .ref sk, .int cg, .int mt, .int qn, .ref sw, .ref m0])), (m0, .inr (5, [.int th, .int el, .ref m1, .ref m2])), (sl, .inl (cI, 2, .inl gl)), (sh, .inl (cI, 40, .inl fh)), (sa, .inl (cI, 40, .inl fa)), (sc, .inl (cI, 40, .inl fc))])) (va_Qi (fun r (_ : Unit) => (r = iI (if (ka (lo h) Hh x < ka (lo h) Hh y ∨ (ka (lo h) Hh x = ka (lo h) Hh y ∧ cm x < cm y)) then 1 else 0))) (fun _ _ => True) (fun _ => False)) 0 0 (fun _ => False) := by
  refine Met.ofW (cc := cX4_isAhead) (maxL := 3) (ret := (Option.some .boolean)) (by decide) rfl ?_
  intro p e s m args below meth c s₁ hBd hml hv
  obtain ⟨rfl, hsz, hP, hD, hK, hT, hZ⟩ := hv
  have hx := hBd.exec
  have hb := hBd.bytes
  have hr := hBd.returns
  have hts : ∀ w ∈ lw_G, w.before _ s = true := fun w h => atoms_spec (ws := ws_ yX4_isAhead cX4_isAhead 3 (Option.some .boolean)) hBd.pre w (List.mem_cons_of_mem _ h)
  have hown : s.vm.findClass RX4 = some m.cls := findClass_of_methodNamed hBd.named
  have hlocks := hBd.notSynchronized
  subst hsz
  have hS : va_S (fun _ => False) s.heap s.heap [] := va_S.rf
  have hl := lv_entry ([.ref s0, .int x0, .int y0]) (n := 3) (Nat.le_of_ble_eq_true rfl)
  rw [lg_entry_eq]
  generalize (lg_sl ([.ref s0, .int x0, .int y0]) ++ List.replicate (3 - (lg_sl ([.ref s0, .int x0, .int y0])).length) Slot.unset).toArray = ls at hl ⊢
  have hl : lv_has ls 3 [(0, .ref s0), (1, .int x0), (2, .int y0)] := hl
  have hP : va_P D vwCl [(s0, .inr (4, [.ref sh, .ref sa, .ref sc, .ref sv, .ref sr, .ref sl, .ref sk, .int cg, .int mt, .int qn, .ref sw, .ref m0])), (m0, .inr (5, [.int th, .int el, .ref m1, .ref m2])), (sl, .inl (cI, 2, .inl gl)), (sh, .inl (cI, 40, .inl fh)), (sa, .inl (cI, 40, .inl fa)), (sc, .inl (cI, 40, .inl fc))] s.heap := hP
  obtain ⟨hn, hn4, hfh⟩ := id hem
  have hlh := (hlw h hh2).2
  have hk1 : ka (lo h) Hh x ≤ 10 := bk_le10 hlh (hfh x hxn).2
  have hk2 : ka (lo h) Hh y ≤ 10 := bk_le10 hlh (hfh y hyn).2
  have hcx := hca x hxn
  have hcy := hca y hyn
  refine lv_aload_n hx hb dX4_isAhead_0 rfl (lv_at hl 0 rfl) ?_
  refine lv_iload_n hx hb dX4_isAhead_1 rfl (lv_at hl 1 rfl) ?_
  refine cr_i (va_runV (As := [.int x0]) (rest := []) ⟨hx, hb, hml, hown, hts⟩ (k_X4_bucket l D cI cZ cJ _ s0 x0 sh sa sc sv sr sl sk cg mt qn sw m0 th el m1 m2 gl fh fa n x Hh av lo (hem) (hat) (hlw) (hxv.trans (congrArg iI (by omega))) (hxn)) (cwV 1 hts (gV qw704 qw685 qw686 qw24 qw687) rfl rfl rfl (by decide +kernel) ⟨Nat.le_of_ble_eq_true rfl, Nat.le_of_ble_eq_true rfl⟩) (pv (ci := 4) (r := (RX4, TX4, 12)) (q0 := 0) hP hD hK hT hZ hS [0, 1, 2, 3, 4] rfl rfl rfl rfl) rfl rfl hl.1 rfl (lv_room (Nat.le_of_ble_eq_true rfl)) dX4_isAhead_2 ⟨Nat.le_of_ble_eq_true rfl, Nat.le_of_ble_eq_true rfl⟩) hS hP (fun x_2 H locs hw_2 hP hS => ?_)
  have hw_2 : (x_2 = iI (bkB lo (av x) (Hh x))) := hw_2
  have v_2 := hw_2
  have b_2 : x_2 = iI (↑(ka (lo h) Hh x)) := v_2.trans (congrArg iI (bkB_ka hxh))
  refine lv_aload_n hx hb dX4_isAhead_5 rfl (lv_at hl 0 rfl) ?_
  refine lv_iload_n hx hb dX4_isAhead_6 rfl (lv_at hl 2 rfl) ?_
  refine cr_i (va_runV (As := [.int y0]) (rest := [.int x_2]) ⟨hx, hb, hml, hown, hts⟩ (k_X4_bucket l D cI cZ cJ _ s0 y0 sh sa sc sv sr sl sk cg mt qn sw m0 th el m1 m2 gl fh fa n y Hh av lo (hem) (hat) (hlw) (hyv.trans (congrArg iI (by omega))) (hyn)) (cwV 1 hts (gV qw704 qw685 qw686 qw24 qw687) rfl rfl rfl (by decide +kernel) ⟨Nat.le_of_ble_eq_true rfl, Nat.le_of_ble_eq_true rfl⟩) (pv (ci := 4) (r := (RX4, TX4, 12)) (q0 := 0) hP hD hK hT hZ hS [0, 1, 2, 3, 4] rfl rfl rfl rfl) rfl rfl hl.1 rfl (lv_room (Nat.le_of_ble_eq_true rfl)) dX4_isAhead_7 ⟨Nat.le_of_ble_eq_true rfl, Nat.le_of_ble_eq_true rfl⟩) hS hP (fun x_7 H locs hw_7 hP hS => ?_)
  have hw_7 : (x_7 = iI (bkB lo (av y) (Hh y))) := hw_7
  have v_7 := hw_7
  have b_7 : x_7 = iI (↑(ka (lo h) Hh y)) := v_7.trans (congrArg iI (bkB_ka hyh))
  refine lz_icmp_eq (tgt := 34) hx hb b_2 b_7 ⟨by omega, by omega⟩ dX4_isAhead_10 (by decide) (fun c_10 => ?_) (fun c_10 => ?_)
  · refine lv_aload_n hx hb dX4_isAhead_34 rfl (lv_at hl 0 rfl) ?_
    refine va_get (D := D) (ci := 4) (v := .ref sc) (C := RX4) (T := TX4) (N := 12) hx hb hts iX4 hown hK hP 0 rfl rfl 2 (by decide) (hts _ qw598) (fun _ h9 => h9) rfl dX4_isAhead_35 ?_
    refine lv_iload_n hx hb dX4_isAhead_38 rfl (lv_at hl 1 rfl) ?_
    refine lz_iald hx hb hK hP 5 0 rfl rfl hxv (x) (by omega) (by omega) (by decide) dX4_isAhead_39 (fun x_39 e_39 => ?_)
    have v_39 : x_39 = iI (↑(cm x)) := e_39.trans ((hca _ (by omega)).1)
    refine lv_aload_n hx hb dX4_isAhead_40 rfl (lv_at hl 0 rfl) ?_
    refine va_get (D := D) (ci := 4) (v := .ref sc) (C := RX4) (T := TX4) (N := 12) hx hb hts iX4 hown hK hP 0 rfl rfl 2 (by decide) (hts _ qw598) (fun _ h9 => h9) rfl dX4_isAhead_41 ?_
    refine lv_iload_n hx hb dX4_isAhead_44 rfl (lv_at hl 2 rfl) ?_
    refine lz_iald hx hb hK hP 5 0 rfl rfl hyv (y) (by omega) (by omega) (by decide) dX4_isAhead_45 (fun x_45 e_45 => ?_)
    have v_45 : x_45 = iI (↑(cm y)) := e_45.trans ((hca _ (by omega)).1)
    refine lz_icmp_ge (tgt := 53) hx hb v_39 v_45 ⟨by omega, by omega⟩ dX4_isAhead_46 (by decide) (fun c_46 => ?_) (fun c_46 => ?_)
    · refine lz_iconst hx hb dX4_isAhead_53 (fun x_53 v_53 => ?_)
      exact W.zret (v := x_53) (ty := .boolean) hx hb hr (by rw [v_53]; decide) (fun t ht hW => ⟨⟨x_53, (), rfl, v_53.trans (congrArg iI (by omega)), trivial⟩, hS.F ht⟩) hS.2.2 dX4_isAhead_54
    · refine lz_iconst hx hb dX4_isAhead_49 (fun x_49 v_49 => ?_)
      refine lv_goto (tgt := 54) hx hb dX4_isAhead_50 (by decide) ?_
      exact W.zret (v := x_49) (ty := .boolean) hx hb hr (by rw [v_49]; decide) (fun t ht hW => ⟨⟨x_49, (), rfl, v_49.trans (congrArg iI (by omega)), trivial⟩, hS.F ht⟩) hS.2.2 dX4_isAhead_54
  · refine lv_aload_n hx hb dX4_isAhead_13 rfl (lv_at hl 0 rfl) ?_
    refine lv_iload_n hx hb dX4_isAhead_14 rfl (lv_at hl 1 rfl) ?_
    refine cr_i (va_runV (As := [.int x0]) (rest := []) ⟨hx, hb, hml, hown, hts⟩ (k_X4_bucket l D cI cZ cJ _ s0 x0 sh sa sc sv sr sl sk cg mt qn sw m0 th el m1 m2 gl fh fa n x Hh av lo (hem) (hat) (hlw) (hxv.trans (congrArg iI (by omega))) (hxn)) (cwV 1 hts (gV qw704 qw685 qw686 qw24 qw687) rfl rfl rfl (by decide +kernel) ⟨Nat.le_of_ble_eq_true rfl, Nat.le_of_ble_eq_true rfl⟩) (pv (ci := 4) (r := (RX4, TX4, 12)) (q0 := 0) hP hD hK hT hZ hS [0, 1, 2, 3, 4] rfl rfl rfl rfl) rfl rfl hl.1 rfl (lv_room (Nat.le_of_ble_eq_true rfl)) dX4_isAhead_15 ⟨Nat.le_of_ble_eq_true rfl, Nat.le_of_ble_eq_true rfl⟩) hS hP (fun x_15 H locs hw_15 hP hS => ?_)
    have hw_15 : (x_15 = iI (bkB lo (av x) (Hh x))) := hw_15
    have v_15 := hw_15
    have b_15 : x_15 = iI (↑(ka (lo h) Hh x)) := v_15.trans (congrArg iI (bkB_ka hxh))
    refine lv_aload_n hx hb dX4_isAhead_18 rfl (lv_at hl 0 rfl) ?_
    refine lv_iload_n hx hb dX4_isAhead_19 rfl (lv_at hl 2 rfl) ?_
    refine cr_i (va_runV (As := [.int y0]) (rest := [.int x_15]) ⟨hx, hb, hml, hown, hts⟩ (k_X4_bucket l D cI cZ cJ _ s0 y0 sh sa sc sv sr sl sk cg mt qn sw m0 th el m1 m2 gl fh fa n y Hh av lo (hem) (hat) (hlw) (hyv.trans (congrArg iI (by omega))) (hyn)) (cwV 1 hts (gV qw704 qw685 qw686 qw24 qw687) rfl rfl rfl (by decide +kernel) ⟨Nat.le_of_ble_eq_true rfl, Nat.le_of_ble_eq_true rfl⟩) (pv (ci := 4) (r := (RX4, TX4, 12)) (q0 := 0) hP hD hK hT hZ hS [0, 1, 2, 3, 4] rfl rfl rfl rfl) rfl rfl hl.1 rfl (lv_room (Nat.le_of_ble_eq_true rfl)) dX4_isAhead_20 ⟨Nat.le_of_ble_eq_true rfl, Nat.le_of_ble_eq_true rfl⟩) hS hP (fun x_20 H locs hw_20 hP hS => ?_)
    have hw_20 : (x_20 = iI (bkB lo (av y) (Hh y))) := hw_20
    have v_20 := hw_20
    have b_20 : x_20 = iI (↑(ka (lo h) Hh y)) := v_20.trans (congrArg iI (bkB_ka hyh))
    refine lz_icmp_ge (tgt := 30) hx hb b_15 b_20 ⟨by omega, by omega⟩ dX4_isAhead_23 (by decide) (fun c_23 => ?_) (fun c_23 => ?_)
    · refine lz_iconst hx hb dX4_isAhead_30 (fun x_30 v_30 => ?_)
      refine lv_goto (tgt := 54) hx hb dX4_isAhead_31 (by decide) ?_
      exact W.zret (v := x_30) (ty := .boolean) hx hb hr (by rw [v_30]; decide) (fun t ht hW => ⟨⟨x_30, (), rfl, v_30.trans (congrArg iI (by omega)), trivial⟩, hS.F ht⟩) hS.2.2 dX4_isAhead_54
    · refine lz_iconst hx hb dX4_isAhead_26 (fun x_26 v_26 => ?_)
      refine lv_goto (tgt := 54) hx hb dX4_isAhead_27 (by decide) ?_
      exact W.zret (v := x_26) (ty := .boolean) hx hb hr (by rw [v_26]; decide) (fun t ht hW => ⟨⟨x_26, (), rfl, v_26.trans (congrArg iI (by omega)), trivial⟩, hS.F ht⟩) hS.2.2 dX4_isAhead_54
set_option maxHeartbeats 4000000 in
set_option maxRecDepth 100000 in
theorem k_X4_line (l : Launch) (D : va_G) (cI cZ cJ : ClassId) (hz9 : Nat) (s0 : Nat) (h0 : Int32) (b0 : Int32) (sh : Nat) (sa : Nat) (sc : Nat) (sv : Nat) (sr : Nat) (sl : Nat) (sk : Nat) (cg : Int32) (mt : Int32) (qn : Int32) (sw : Nat) (m0 : Nat) (th : Int32) (el : Int32) (m1 : Nat) (m2 : Nat) (gl : Nat → Int32) (fh : Nat → Int32) (fa : Nat → Int32) (fc : Nat → Int32) (rw : Nat → Int32) (n h : Nat) (Hh : Nat → Nat) (av : Nat → Int) (cm : Nat → Nat) (lo : Nat → Nat) (L : List Nat) (b : Nat) (hem : embIs el fh n Hh) (hat : atIs fa n av) (hca : caIs fc n cm) (hlw : lowIs gl lo) (hhv : h0 = iI ↑h) (hh2 : h < 2) (hin : inH n av h L) (hor : ord (ka (lo h) Hh) cm L) (hbv : b0 = iI ↑b) (hb : b ≤ 10) : Met l yX4_line (ws_ yX4_line cX4_line 6 (Option.some .int)) ({ frames := 3, cells := 0, slots := 0, locals := 64 }) (va_Pc [.ref s0, .int h0, .int b0] (wPre D cI cZ cJ hz9 [(s0, .inr (4, [.ref sh, .ref sa, .ref sc, .ref sv, .ref sr, .ref sl, .ref sk, .int cg, .int mt, .int qn, .ref sw, .ref m0])), (m0, .inr (5, [.int th, .int el, .ref m1, .ref m2])), (sl, .inl (cI, 2, .inl gl)), (sh, .inl (cI, 40, .inl fh)), (sa, .inl (cI, 40, .inl fa)), (sc, .inl (cI, 40, .inl fc)), (sw, .inl (cI, 40, .inl rw))])) (va_Qi (fun r (u : (Nat → Int32)) => (r = iI (↑(bkL (ka (lo h) Hh) L b).length)) ∧ (rwIs u (bkL (ka (lo h) Hh) L b))) (fun (u : (Nat → Int32)) t => wPost D (va_A [(s0, .inr (4, [.ref sh, .ref sa, .ref sc, .ref sv, .ref sr, .ref sl, .ref sk, .int cg, .int mt, .int qn, .ref sw, .ref m0])), (m0, .inr (5, [.int th, .int el, .ref m1, .ref m2])), (sl, .inl (cI, 2, .inl gl)), (sh, .inl (cI, 40, .inl fh)), (sa, .inl (cI, 40, .inl fa)), (sc, .inl (cI, 40, .inl fc)), (sw, .inl (cI, 40, .inl rw))] hz9) [(s0, .inr (4, [.ref sh, .ref sa, .ref sc, .ref sv, .ref sr, .ref sl, .ref sk, .int cg, .int mt, .int qn, .ref sw, .ref m0])), (m0, .inr (5, [.int th, .int el, .ref m1, .ref m2])), (sl, .inl (cI, 2, .inl gl)), (sh, .inl (cI, 40, .inl fh)), (sa, .inl (cI, 40, .inl fa)), (sc, .inl (cI, 40, .inl fc)), (sw, .inl (cI, 40, .inl u))] t) (va_A [(s0, .inr (4, [.ref sh, .ref sa, .ref sc, .ref sv, .ref sr, .ref sl, .ref sk, .int cg, .int mt, .int qn, .ref sw, .ref m0])), (m0, .inr (5, [.int th, .int el, .ref m1, .ref m2])), (sl, .inl (cI, 2, .inl gl)), (sh, .inl (cI, 40, .inl fh)), (sa, .inl (cI, 40, .inl fa)), (sc, .inl (cI, 40, .inl fc)), (sw, .inl (cI, 40, .inl rw))] hz9)) 0 0 (va_A [(s0, .inr (4, [.ref sh, .ref sa, .ref sc, .ref sv, .ref sr, .ref sl, .ref sk, .int cg, .int mt, .int qn, .ref sw, .ref m0])), (m0, .inr (5, [.int th, .int el, .ref m1, .ref m2])), (sl, .inl (cI, 2, .inl gl)), (sh, .inl (cI, 40, .inl fh)), (sa, .inl (cI, 40, .inl fa)), (sc, .inl (cI, 40, .inl fc)), (sw, .inl (cI, 40, .inl rw))] hz9) := by
  refine Met.ofW (cc := cX4_line) (maxL := 6) (ret := (Option.some .int)) (by decide) rfl ?_
  intro p e s m args below meth c s₁ hBd hml hv
  obtain ⟨rfl, hsz, hP, hD, hK, hT, hZ⟩ := hv
  have hx := hBd.exec
  have hb := hBd.bytes
  have hr := hBd.returns
  have hts : ∀ w ∈ lw_G, w.before _ s = true := fun w h => atoms_spec (ws := ws_ yX4_line cX4_line 6 (Option.some .int)) hBd.pre w (List.mem_cons_of_mem _ h)
  have hown : s.vm.findClass RX4 = some m.cls := findClass_of_methodNamed hBd.named
  have hlocks := hBd.notSynchronized
  subst hsz
  have hD := hD.self (sz := s.heap.size)
  have hZA := hZ.own hP
  generalize hAe : va_A [(s0, .inr (4, [.ref sh, .ref sa, .ref sc, .ref sv, .ref sr, .ref sl, .ref sk, .int cg, .int mt, .int qn, .ref sw, .ref m0])), (m0, .inr (5, [.int th, .int el, .ref m1, .ref m2])), (sl, .inl (cI, 2, .inl gl)), (sh, .inl (cI, 40, .inl fh)), (sa, .inl (cI, 40, .inl fa)), (sc, .inl (cI, 40, .inl fc)), (sw, .inl (cI, 40, .inl rw))] s.heap.size = A at hD hZA ⊢
  have hA : ∀ q : Nat, s.heap.size ≤ q → A q := fun q h => by rw [← hAe]; exact Or.inr h
  have hZ := hZA
  have hS : va_S A s.heap s.heap [] := va_S.rf
  have hl := lv_entry ([.ref s0, .int h0, .int b0]) (n := 6) (Nat.le_of_ble_eq_true rfl)
  rw [lg_entry_eq]
  generalize (lg_sl ([.ref s0, .int h0, .int b0]) ++ List.replicate (6 - (lg_sl ([.ref s0, .int h0, .int b0])).length) Slot.unset).toArray = ls at hl ⊢
  have hl : lv_has ls 6 [(0, .ref s0), (1, .int h0), (2, .int b0)] := hl
  have hP : va_P D vwCl [(s0, .inr (4, [.ref sh, .ref sa, .ref sc, .ref sv, .ref sr, .ref sl, .ref sk, .int cg, .int mt, .int qn, .ref sw, .ref m0])), (m0, .inr (5, [.int th, .int el, .ref m1, .ref m2])), (sl, .inl (cI, 2, .inl gl)), (sh, .inl (cI, 40, .inl fh)), (sa, .inl (cI, 40, .inl fa)), (sc, .inl (cI, 40, .inl fc)), (sw, .inl (cI, 40, .inl rw))] s.heap := hP
  obtain ⟨hn, hn4, hfh⟩ := id hem
  have hlh := (hlw h hh2).2
  have hLn : ∀ x ∈ L, x < n := fun x hx => ((hin x).mp hx).1
  have hll := inH_nodup_len (ord_nodup hor) hLn
  have hMl : (bkL (ka (lo h) Hh) L b).length ≤ L.length := List.length_filter_le _ _
  have hMn : ∀ x ∈ (bkL (ka (lo h) Hh) L b), x < n := fun x hx => hLn x (bkL_mem.mp hx).1
  refine lz_iconst hx hb dX4_line_0 (fun x_0 v_0 => ?_)
  refine lv_istore_n (lv' := [(3, .int x_0), (0, .ref s0), (1, .int h0), (2, .int b0)]) hx hb dX4_line_1 rfl hl (by decide) rfl (fun ls hl => ?_)
  refine lz_iconst hx hb dX4_line_2 (fun x_2 v_2 => ?_)
  refine lv_istore (lv' := [(4, .int x_2), (3, .int x_0), (0, .ref s0), (1, .int h0), (2, .int b0)]) hx hb dX4_line_3 hl (by decide) rfl (fun ls hl => ?_)
  have key5 : ∀ (fu : Nat) (i : Nat) (ii : Int32) (mn : Int32) (rwi : Nat → Int32) (H : Heap) (locs : List Loc) (ls : Array Slot), n + 1 - i < fu → (ii = iI (↑i)) → (i ≤ n) → (mn = iI (↑(fl (bkL (ka (lo h) Hh) L b) i).length)) → (rwIs rwi (fl (bkL (ka (lo h) Hh) L b) i)) → va_P D vwCl [(s0, .inr (4, [.ref sh, .ref sa, .ref sc, .ref sv, .ref sr, .ref sl, .ref sk, .int cg, .int mt, .int qn, .ref sw, .ref m0])), (m0, .inr (5, [.int th, .int el, .ref m1, .ref m2])), (sl, .inl (cI, 2, .inl gl)), (sh, .inl (cI, 40, .inl fh)), (sa, .inl (cI, 40, .inl fa)), (sc, .inl (cI, 40, .inl fc)), (sw, .inl (cI, 40, .inl rwi))] H → va_D A [(s0, .inr (4, [.ref sh, .ref sa, .ref sc, .ref sv, .ref sr, .ref sl, .ref sk, .int cg, .int mt, .int qn, .ref sw, .ref m0])), (m0, .inr (5, [.int th, .int el, .ref m1, .ref m2])), (sl, .inl (cI, 2, .inl gl)), (sh, .inl (cI, 40, .inl fh)), (sa, .inl (cI, 40, .inl fa)), (sc, .inl (cI, 40, .inl fc)), (sw, .inl (cI, 40, .inl rwi))] → va_S A s.heap H locs → lv_has ls 6 [(4, .int ii), (3, .int mn), (0, .ref s0), (1, .int h0), (2, .int b0)] → W p l e (headSpec (ws_ yX4_line cX4_line 6 (Option.some .int)) ({ frames := 3, cells := 0, slots := 0, locals := 64 })).room s m ([.ref s0, .int h0, .int b0] : List Value).toArray below meth c H locs 0 0 (MQ below (va_Qi (fun r (u : (Nat → Int32)) => (r = iI (↑(bkL (ka (lo h) Hh) L b).length)) ∧ (rwIs u (bkL (ka (lo h) Hh) L b))) (fun (u : (Nat → Int32)) t => wPost D A [(s0, .inr (4, [.ref sh, .ref sa, .ref sc, .ref sv, .ref sr, .ref sl, .ref sk, .int cg, .int mt, .int qn, .ref sw, .ref m0])), (m0, .inr (5, [.int th, .int el, .ref m1, .ref m2])), (sl, .inl (cI, 2, .inl gl)), (sh, .inl (cI, 40, .inl fh)), (sa, .inl (cI, 40, .inl fa)), (sc, .inl (cI, 40, .inl fc)), (sw, .inl (cI, 40, .inl u))] t) A) ([.ref s0, .int h0, .int b0] : List Value).toArray s 0 0 A) (F0 m 5 ls []) := by
    intro fu
    induction fu with
    | zero => intros; omega
    | succ fu ih5 =>
      intro i ii mn rwi H locs ls hfu hi hle hm hrw hP hD hS hl
      refine lv_iload hx hb dX4_line_5 (lv_at hl 0 rfl) ?_
      refine lv_aload_n hx hb dX4_line_7 rfl (lv_at hl 2 rfl) ?_
      refine va_get (D := D) (ci := 4) (v := .ref m0) (C := RX4) (T := TX4) (N := 12) hx hb hts iX4 hown hK hP 0 rfl rfl 11 (by decide) (hts _ qw614) (fun _ h9 => h9) rfl dX4_line_8 ?_
      refine va_getN (D := D) (ci := 5) (v := .int el) (C := RX5) (T := TX5) (N := 4) hx hb hts iX5 hown hK hP 1 rfl rfl 1 (by decide) (va_Nw.use rfl (hT.1 _ nw624)) (fun _ h9 => h9) rfl dX4_line_11 ?_
      refine lz_icmp_ge (tgt := 113) hx hb hi hn ⟨by omega, by omega⟩ dX4_line_14 (by decide) (fun c_14 => ?_) (fun c_14 => ?_)
      · have hfM : fl (bkL (ka (lo h) Hh) L b) i = (bkL (ka (lo h) Hh) L b) := fl_all (fun x hx => Nat.lt_of_lt_of_le (hMn x hx) (show n ≤ i by omega))
        rw [hfM] at hm hrw
        refine lv_iload_n hx hb dX4_line_113 rfl (lv_at hl 1 rfl) ?_
        have hP9 := va_P_subm (ws' := [(s0, .inr (4, [.ref sh, .ref sa, .ref sc, .ref sv, .ref sr, .ref sl, .ref sk, .int cg, .int mt, .int qn, .ref sw, .ref m0])), (m0, .inr (5, [.int th, .int el, .ref m1, .ref m2])), (sl, .inl (cI, 2, .inl gl)), (sh, .inl (cI, 40, .inl fh)), (sa, .inl (cI, 40, .inl fa)), (sc, .inl (cI, 40, .inl fc)), (sw, .inl (cI, 40, .inl rwi))]) hP [0, 1, 2, 3, 4, 5, 6] rfl
        have hD9 := hD.sub (ws' := [(s0, .inr (4, [.ref sh, .ref sa, .ref sc, .ref sv, .ref sr, .ref sl, .ref sk, .int cg, .int mt, .int qn, .ref sw, .ref m0])), (m0, .inr (5, [.int th, .int el, .ref m1, .ref m2])), (sl, .inl (cI, 2, .inl gl)), (sh, .inl (cI, 40, .inl fh)), (sa, .inl (cI, 40, .inl fa)), (sc, .inl (cI, 40, .inl fc)), (sw, .inl (cI, 40, .inl rwi))]) [0, 1, 2, 3, 4, 5, 6] rfl rfl
        exact W.iret (v := mn) hx hb hr (fun t ht hW => ⟨⟨mn, rwi, rfl, ⟨hm, hrw⟩, ⟨by rw [ht]; exact hP9, hD9⟩⟩, hS.F ht⟩) hS.2.2 dX4_line_114
      · refine lv_aload_n hx hb dX4_line_17 rfl (lv_at hl 2 rfl) ?_
        refine va_get (D := D) (ci := 4) (v := .ref sa) (C := RX4) (T := TX4) (N := 12) hx hb hts iX4 hown hK hP 0 rfl rfl 1 (by decide) (hts _ qw596) (fun _ h9 => h9) rfl dX4_line_18 ?_
        refine lv_iload hx hb dX4_line_21 (lv_at hl 0 rfl) ?_
        have hai := hat i (by omega)
        have hHi := hfh i (by omega)
        have hci := hca i (by omega)
        have hk10 : ka (lo h) Hh i ≤ 10 := bk_le10 hlh hHi.2
        refine lz_iald hx hb hK hP 4 0 rfl rfl hi (i) (by omega) (by omega) (by decide) dX4_line_23 (fun x_23 e_23 => ?_)
        have v_23 : x_23 = iI (av i) := e_23.trans ((hat _ (by omega)).1)
        refine lv_iload_n hx hb dX4_line_24 rfl (lv_at hl 3 rfl) ?_
        refine lz_icmp_ne (tgt := 107) hx hb v_23 hhv ⟨by omega, by omega⟩ dX4_line_25 (by decide) (fun c_25 => ?_) (fun c_25 => ?_)
        · have hiN : i ∉ (bkL (ka (lo h) Hh) L b) := fun q => c_25 ((hin i).mp (bkL_mem.mp q).1).2
          refine lz_iinc (lv2 := fun z => [(4, .int z), (3, .int mn), (0, .ref s0), (1, .int h0), (2, .int b0)]) hx hb dX4_line_107 hl (k := 0) rfl hi (by decide) (fun _ => rfl) (fun x_107 ls v_107 hl => ?_)
          refine lv_goto (tgt := 5) hx hb dX4_line_110 (by decide) ?_
          exact ih5 (i + 1) x_107 mn rwi _ _ _ (by omega) (v_107.trans (congrArg iI (by omega))) (by omega) (by first | exact v_104.trans (congrArg iI (by rw [fl_in_len (bkL_nodup hor) hiM]; omega)) | exact hm.trans (congrArg iI (by rw [fl_out hiN]))) (by first | exact hrw9 | (rw [fl_out hiN]; exact hrw)) hP hD hS (lv_sub hl [0, 1, 2, 3, 4] rfl)
        · refine lv_aload_n hx hb dX4_line_28 rfl (lv_at hl 2 rfl) ?_
          refine lv_iload hx hb dX4_line_29 (lv_at hl 0 rfl) ?_
          refine cr_i (va_runV (As := [.int ii]) (rest := []) ⟨hx, hb, hml, hown, hts⟩ (k_X4_bucket l D cI cZ cJ _ s0 ii sh sa sc sv sr sl sk cg mt qn sw m0 th el m1 m2 gl fh fa n i Hh av lo (hem) (hat) (hlw) (hi.trans (congrArg iI (by omega))) (by omega)) (cwV 1 hts (gV qw704 qw685 qw686 qw24 qw687) rfl rfl rfl (by decide +kernel) ⟨Nat.le_of_ble_eq_true rfl, Nat.le_of_ble_eq_true rfl⟩) (pv (ci := 4) (r := (RX4, TX4, 12)) (q0 := 0) hP hD hK hT hZ hS [0, 1, 2, 3, 4] rfl rfl rfl rfl) rfl rfl hl.1 rfl (lv_room (Nat.le_of_ble_eq_true rfl)) dX4_line_31 ⟨Nat.le_of_ble_eq_true rfl, Nat.le_of_ble_eq_true rfl⟩) hS hP (fun x_31 H locs hw_31 hP hS => ?_)
          have hw_31 : (x_31 = iI (bkB lo (av i) (Hh i))) := hw_31
          have v_31 := hw_31
          have b_31 : x_31 = iI (↑(ka (lo h) Hh i)) := v_31.trans (congrArg iI (bkB_ka c_25))
          refine lv_iload_n hx hb dX4_line_34 rfl (lv_at hl 4 rfl) ?_
          refine lz_icmp_eq (tgt := 41) hx hb b_31 hbv ⟨by omega, by omega⟩ dX4_line_35 (by decide) (fun c_35 => ?_) (fun c_35 => ?_)
          · have hiM : i ∈ (bkL (ka (lo h) Hh) L b) := bkL_mem.mpr ⟨(hin i).mpr ⟨by omega, c_25⟩, by omega⟩
            obtain ⟨p9, hp1, hp2, hp3, hp4⟩ := fl_split (bkL_R hor) (bkL_nodup hor) hiM
            have hYl : (fl (bkL (ka (lo h) Hh) L b) i).length < 40 := by have h8 := fl_in_len (bkL_nodup hor) hiM; have h9 := fl_len (bkL (ka (lo h) Hh) L b) (i + 1); omega
            refine lv_iload_n hx hb dX4_line_41 rfl (lv_at hl 1 rfl) ?_
            refine lv_istore (lv' := [(5, .int mn), (4, .int ii), (3, .int mn), (0, .ref s0), (1, .int h0), (2, .int b0)]) hx hb dX4_line_42 hl (by decide) rfl (fun ls hl => ?_)
            have key44 : ∀ (fu : Nat) (k : Nat) (kk : Int32) (rwk : Nat → Int32) (H : Heap) (locs : List Loc) (ls : Array Slot), k + 1 < fu → (kk = iI (↑k)) → (p9 ≤ k) → (k ≤ (fl (bkL (ka (lo h) Hh) L b) i).length) → (shIs rwk (fl (bkL (ka (lo h) Hh) L b) i) k) → va_P D vwCl [(s0, .inr (4, [.ref sh, .ref sa, .ref sc, .ref sv, .ref sr, .ref sl, .ref sk, .int cg, .int mt, .int qn, .ref sw, .ref m0])), (m0, .inr (5, [.int th, .int el, .ref m1, .ref m2])), (sl, .inl (cI, 2, .inl gl)), (sh, .inl (cI, 40, .inl fh)), (sa, .inl (cI, 40, .inl fa)), (sc, .inl (cI, 40, .inl fc)), (sw, .inl (cI, 40, .inl rwk))] H → va_D A [(s0, .inr (4, [.ref sh, .ref sa, .ref sc, .ref sv, .ref sr, .ref sl, .ref sk, .int cg, .int mt, .int qn, .ref sw, .ref m0])), (m0, .inr (5, [.int th, .int el, .ref m1, .ref m2])), (sl, .inl (cI, 2, .inl gl)), (sh, .inl (cI, 40, .inl fh)), (sa, .inl (cI, 40, .inl fa)), (sc, .inl (cI, 40, .inl fc)), (sw, .inl (cI, 40, .inl rwk))] → va_S A s.heap H locs → lv_has ls 6 [(5, .int kk), (4, .int ii), (3, .int mn), (0, .ref s0), (1, .int h0), (2, .int b0)] → W p l e (headSpec (ws_ yX4_line cX4_line 6 (Option.some .int)) ({ frames := 3, cells := 0, slots := 0, locals := 64 })).room s m ([.ref s0, .int h0, .int b0] : List Value).toArray below meth c H locs 0 0 (MQ below (va_Qi (fun r (u : (Nat → Int32)) => (r = iI (↑(bkL (ka (lo h) Hh) L b).length)) ∧ (rwIs u (bkL (ka (lo h) Hh) L b))) (fun (u : (Nat → Int32)) t => wPost D A [(s0, .inr (4, [.ref sh, .ref sa, .ref sc, .ref sv, .ref sr, .ref sl, .ref sk, .int cg, .int mt, .int qn, .ref sw, .ref m0])), (m0, .inr (5, [.int th, .int el, .ref m1, .ref m2])), (sl, .inl (cI, 2, .inl gl)), (sh, .inl (cI, 40, .inl fh)), (sa, .inl (cI, 40, .inl fa)), (sc, .inl (cI, 40, .inl fc)), (sw, .inl (cI, 40, .inl u))] t) A) ([.ref s0, .int h0, .int b0] : List Value).toArray s 0 0 A) (F0 m 44 ls []) := by
              intro fu
              induction fu with
              | zero => intros; omega
              | succ fu ih44 =>
                intro k kk rwk H locs ls hfu hk hk1 hk2 hsh hP hD hS hl
                refine lv_iload hx hb dX4_line_44 (lv_at hl 0 rfl) ?_
                refine lz_if_le (tgt := 95) hx hb hk (by omega) dX4_line_46 (by decide) (fun c_46 => ?_) (fun c_46 => ?_)
                · have hkp : k = p9 := by omega
                  refine lv_aload_n hx hb dX4_line_95 rfl (lv_at hl 3 rfl) ?_
                  refine va_get (D := D) (ci := 4) (v := .ref sw) (C := RX4) (T := TX4) (N := 12) hx hb hts iX4 hown hK hP 0 rfl rfl 10 (by decide) (hts _ qw612) (fun _ h9 => h9) rfl dX4_line_96 ?_
                  refine lv_iload hx hb dX4_line_99 (lv_at hl 0 rfl) ?_
                  refine lv_iload hx hb dX4_line_101 (lv_at hl 1 rfl) ?_
                  refine lz_iast hx hb hK hP hD hS 6 0 rfl rfl hk (k) (by omega) (by omega) (by decide) (ws2 := fun z => [(s0, .inr (4, [.ref sh, .ref sa, .ref sc, .ref sv, .ref sr, .ref sl, .ref sk, .int cg, .int mt, .int qn, .ref sw, .ref m0])), (m0, .inr (5, [.int th, .int el, .ref m1, .ref m2])), (sl, .inl (cI, 2, .inl gl)), (sh, .inl (cI, 40, .inl fh)), (sa, .inl (cI, 40, .inl fa)), (sc, .inl (cI, 40, .inl fc)), (sw, .inl (cI, 40, .inl z))]) (fun _ => rfl) dX4_line_103 (fun f_103 H locs e_103 hP hD hS => ?_)
                  have hP : va_P D vwCl [(s0, .inr (4, [.ref sh, .ref sa, .ref sc, .ref sv, .ref sr, .ref sl, .ref sk, .int cg, .int mt, .int qn, .ref sw, .ref m0])), (m0, .inr (5, [.int th, .int el, .ref m1, .ref m2])), (sl, .inl (cI, 2, .inl gl)), (sh, .inl (cI, 40, .inl fh)), (sa, .inl (cI, 40, .inl fa)), (sc, .inl (cI, 40, .inl fc)), (sw, .inl (cI, 40, .inl f_103))] H := hP
                  have hD : va_D A [(s0, .inr (4, [.ref sh, .ref sa, .ref sc, .ref sv, .ref sr, .ref sl, .ref sk, .int cg, .int mt, .int qn, .ref sw, .ref m0])), (m0, .inr (5, [.int th, .int el, .ref m1, .ref m2])), (sl, .inl (cI, 2, .inl gl)), (sh, .inl (cI, 40, .inl fh)), (sa, .inl (cI, 40, .inl fa)), (sc, .inl (cI, 40, .inl fc)), (sw, .inl (cI, 40, .inl f_103))] := hD
                  have hrw9 : rwIs f_103 (fl (bkL (ka (lo h) Hh) L b) (i + 1)) := shIs_end hsh hk2 e_103 hi (by rw [hkp]; exact hp4)
                  refine lz_iinc (lv2 := fun z => [(3, .int z), (5, .int kk), (4, .int ii), (0, .ref s0), (1, .int h0), (2, .int b0)]) hx hb dX4_line_104 hl (k := 2) rfl hm (by decide) (fun _ => rfl) (fun x_104 ls v_104 hl => ?_)
                  refine lz_iinc (lv2 := fun z => [(4, .int z), (3, .int x_104), (5, .int kk), (0, .ref s0), (1, .int h0), (2, .int b0)]) hx hb dX4_line_107 hl (k := 2) rfl hi (by decide) (fun _ => rfl) (fun x_107 ls v_107 hl => ?_)
                  refine lv_goto (tgt := 5) hx hb dX4_line_110 (by decide) ?_
                  exact ih5 (i + 1) x_107 x_104 f_103 _ _ _ (by omega) (v_107.trans (congrArg iI (by omega))) (by omega) (by first | exact v_104.trans (congrArg iI (by rw [fl_in_len (bkL_nodup hor) hiM]; omega)) | exact hm.trans (congrArg iI (by rw [fl_out hiN]))) (by first | exact hrw9 | (rw [fl_out hiN]; exact hrw)) hP hD hS (lv_sub hl [0, 1, 3, 4, 5] rfl)
                · have hyb := fl_bd (i := i) (j := k - 1) hMn (by omega)
                  have hcy := hca _ hyb.1
                  refine lv_aload_n hx hb dX4_line_49 rfl (lv_at hl 3 rfl) ?_
                  refine va_get (D := D) (ci := 4) (v := .ref sc) (C := RX4) (T := TX4) (N := 12) hx hb hts iX4 hown hK hP 0 rfl rfl 2 (by decide) (hts _ qw598) (fun _ h9 => h9) rfl dX4_line_50 ?_
                  refine lv_aload_n hx hb dX4_line_53 rfl (lv_at hl 3 rfl) ?_
                  refine va_get (D := D) (ci := 4) (v := .ref sw) (C := RX4) (T := TX4) (N := 12) hx hb hts iX4 hown hK hP 0 rfl rfl 10 (by decide) (hts _ qw612) (fun _ h9 => h9) rfl dX4_line_54 ?_
                  refine lv_iload hx hb dX4_line_57 (lv_at hl 0 rfl) ?_
                  refine lz_iconst hx hb dX4_line_59 (fun x_59 v_59 => ?_)
                  refine lz_isub hx hb hk v_59 dX4_line_60 (fun x_60 v_60 => ?_)
                  refine lz_iald hx hb hK hP 6 0 rfl rfl v_60 (k - 1) (by omega) (by omega) (by decide) dX4_line_61 (fun x_61 e_61 => ?_)
                  have v_61 : x_61 = iI (↑((fl (bkL (ka (lo h) Hh) L b) i).getD (k - 1) 0)) := e_61.trans (hsh.1 _ (by omega))
                  refine lz_iald hx hb hK hP 5 0 rfl rfl v_61 (((fl (bkL (ka (lo h) Hh) L b) i).getD (k - 1) 0)) (by omega) (by omega) (by decide) dX4_line_62 (fun x_62 e_62 => ?_)
                  have v_62 : x_62 = iI (↑(cm ((fl (bkL (ka (lo h) Hh) L b) i).getD (k - 1) 0))) := e_62.trans ((hca _ (by omega)).1)
                  refine lv_aload_n hx hb dX4_line_63 rfl (lv_at hl 3 rfl) ?_
                  refine va_get (D := D) (ci := 4) (v := .ref sc) (C := RX4) (T := TX4) (N := 12) hx hb hts iX4 hown hK hP 0 rfl rfl 2 (by decide) (hts _ qw598) (fun _ h9 => h9) rfl dX4_line_64 ?_
                  refine lv_iload hx hb dX4_line_67 (lv_at hl 1 rfl) ?_
                  refine lz_iald hx hb hK hP 5 0 rfl rfl hi (i) (by omega) (by omega) (by decide) dX4_line_69 (fun x_69 e_69 => ?_)
                  have v_69 : x_69 = iI (↑(cm i)) := e_69.trans ((hca _ (by omega)).1)
                  refine lz_icmp_le (tgt := 95) hx hb v_62 v_69 ⟨by omega, by omega⟩ dX4_line_70 (by decide) (fun c_70 => ?_) (fun c_70 => ?_)
                  · have hkp : k = p9 := by rcases Nat.lt_or_ge p9 k with q9 | q9; (have h9 := hp3 (k - 1) (by omega) (by omega); omega); omega
                    refine lv_aload_n hx hb dX4_line_95 rfl (lv_at hl 3 rfl) ?_
                    refine va_get (D := D) (ci := 4) (v := .ref sw) (C := RX4) (T := TX4) (N := 12) hx hb hts iX4 hown hK hP 0 rfl rfl 10 (by decide) (hts _ qw612) (fun _ h9 => h9) rfl dX4_line_96 ?_
                    refine lv_iload hx hb dX4_line_99 (lv_at hl 0 rfl) ?_
                    refine lv_iload hx hb dX4_line_101 (lv_at hl 1 rfl) ?_
                    refine lz_iast hx hb hK hP hD hS 6 0 rfl rfl hk (k) (by omega) (by omega) (by decide) (ws2 := fun z => [(s0, .inr (4, [.ref sh, .ref sa, .ref sc, .ref sv, .ref sr, .ref sl, .ref sk, .int cg, .int mt, .int qn, .ref sw, .ref m0])), (m0, .inr (5, [.int th, .int el, .ref m1, .ref m2])), (sl, .inl (cI, 2, .inl gl)), (sh, .inl (cI, 40, .inl fh)), (sa, .inl (cI, 40, .inl fa)), (sc, .inl (cI, 40, .inl fc)), (sw, .inl (cI, 40, .inl z))]) (fun _ => rfl) dX4_line_103 (fun f_103 H locs e_103 hP hD hS => ?_)
                    have hP : va_P D vwCl [(s0, .inr (4, [.ref sh, .ref sa, .ref sc, .ref sv, .ref sr, .ref sl, .ref sk, .int cg, .int mt, .int qn, .ref sw, .ref m0])), (m0, .inr (5, [.int th, .int el, .ref m1, .ref m2])), (sl, .inl (cI, 2, .inl gl)), (sh, .inl (cI, 40, .inl fh)), (sa, .inl (cI, 40, .inl fa)), (sc, .inl (cI, 40, .inl fc)), (sw, .inl (cI, 40, .inl f_103))] H := hP
                    have hD : va_D A [(s0, .inr (4, [.ref sh, .ref sa, .ref sc, .ref sv, .ref sr, .ref sl, .ref sk, .int cg, .int mt, .int qn, .ref sw, .ref m0])), (m0, .inr (5, [.int th, .int el, .ref m1, .ref m2])), (sl, .inl (cI, 2, .inl gl)), (sh, .inl (cI, 40, .inl fh)), (sa, .inl (cI, 40, .inl fa)), (sc, .inl (cI, 40, .inl fc)), (sw, .inl (cI, 40, .inl f_103))] := hD
                    have hrw9 : rwIs f_103 (fl (bkL (ka (lo h) Hh) L b) (i + 1)) := shIs_end hsh hk2 e_103 hi (by rw [hkp]; exact hp4)
                    refine lz_iinc (lv2 := fun z => [(3, .int z), (5, .int kk), (4, .int ii), (0, .ref s0), (1, .int h0), (2, .int b0)]) hx hb dX4_line_104 hl (k := 2) rfl hm (by decide) (fun _ => rfl) (fun x_104 ls v_104 hl => ?_)
                    refine lz_iinc (lv2 := fun z => [(4, .int z), (3, .int x_104), (5, .int kk), (0, .ref s0), (1, .int h0), (2, .int b0)]) hx hb dX4_line_107 hl (k := 2) rfl hi (by decide) (fun _ => rfl) (fun x_107 ls v_107 hl => ?_)
                    refine lv_goto (tgt := 5) hx hb dX4_line_110 (by decide) ?_
                    exact ih5 (i + 1) x_107 x_104 f_103 _ _ _ (by omega) (v_107.trans (congrArg iI (by omega))) (by omega) (by first | exact v_104.trans (congrArg iI (by rw [fl_in_len (bkL_nodup hor) hiM]; omega)) | exact hm.trans (congrArg iI (by rw [fl_out hiN]))) (by first | exact hrw9 | (rw [fl_out hiN]; exact hrw)) hP hD hS (lv_sub hl [0, 1, 3, 4, 5] rfl)
                  · have hkF : p9 ≤ k - 1 := by rcases Nat.lt_or_ge (k - 1) p9 with q9 | q9; (have h9 := hp2 (k - 1) q9; omega); exact q9
                    refine lv_aload_n hx hb dX4_line_73 rfl (lv_at hl 3 rfl) ?_
                    refine va_get (D := D) (ci := 4) (v := .ref sw) (C := RX4) (T := TX4) (N := 12) hx hb hts iX4 hown hK hP 0 rfl rfl 10 (by decide) (hts _ qw612) (fun _ h9 => h9) rfl dX4_line_74 ?_
                    refine lv_iload hx hb dX4_line_77 (lv_at hl 0 rfl) ?_
                    refine lv_aload_n hx hb dX4_line_79 rfl (lv_at hl 3 rfl) ?_
                    refine va_get (D := D) (ci := 4) (v := .ref sw) (C := RX4) (T := TX4) (N := 12) hx hb hts iX4 hown hK hP 0 rfl rfl 10 (by decide) (hts _ qw612) (fun _ h9 => h9) rfl dX4_line_80 ?_
                    refine lv_iload hx hb dX4_line_83 (lv_at hl 0 rfl) ?_
                    refine lz_iconst hx hb dX4_line_85 (fun x_85 v_85 => ?_)
                    refine lz_isub hx hb hk v_85 dX4_line_86 (fun x_86 v_86 => ?_)
                    refine lz_iald hx hb hK hP 6 0 rfl rfl v_86 (k - 1) (by omega) (by omega) (by decide) dX4_line_87 (fun x_87 e_87 => ?_)
                    have v_87 : x_87 = iI (↑((fl (bkL (ka (lo h) Hh) L b) i).getD (k - 1) 0)) := e_87.trans (hsh.1 _ (by omega))
                    refine lz_iast hx hb hK hP hD hS 6 0 rfl rfl hk (k) (by omega) (by omega) (by decide) (ws2 := fun z => [(s0, .inr (4, [.ref sh, .ref sa, .ref sc, .ref sv, .ref sr, .ref sl, .ref sk, .int cg, .int mt, .int qn, .ref sw, .ref m0])), (m0, .inr (5, [.int th, .int el, .ref m1, .ref m2])), (sl, .inl (cI, 2, .inl gl)), (sh, .inl (cI, 40, .inl fh)), (sa, .inl (cI, 40, .inl fa)), (sc, .inl (cI, 40, .inl fc)), (sw, .inl (cI, 40, .inl z))]) (fun _ => rfl) dX4_line_88 (fun f_88 H locs e_88 hP hD hS => ?_)
                    have hP : va_P D vwCl [(s0, .inr (4, [.ref sh, .ref sa, .ref sc, .ref sv, .ref sr, .ref sl, .ref sk, .int cg, .int mt, .int qn, .ref sw, .ref m0])), (m0, .inr (5, [.int th, .int el, .ref m1, .ref m2])), (sl, .inl (cI, 2, .inl gl)), (sh, .inl (cI, 40, .inl fh)), (sa, .inl (cI, 40, .inl fa)), (sc, .inl (cI, 40, .inl fc)), (sw, .inl (cI, 40, .inl f_88))] H := hP
                    have hD : va_D A [(s0, .inr (4, [.ref sh, .ref sa, .ref sc, .ref sv, .ref sr, .ref sl, .ref sk, .int cg, .int mt, .int qn, .ref sw, .ref m0])), (m0, .inr (5, [.int th, .int el, .ref m1, .ref m2])), (sl, .inl (cI, 2, .inl gl)), (sh, .inl (cI, 40, .inl fh)), (sa, .inl (cI, 40, .inl fa)), (sc, .inl (cI, 40, .inl fc)), (sw, .inl (cI, 40, .inl f_88))] := hD
                    refine lz_iinc (lv2 := fun z => [(5, .int z), (4, .int ii), (3, .int mn), (0, .ref s0), (1, .int h0), (2, .int b0)]) hx hb dX4_line_89 hl (k := 0) rfl hk (by decide) (fun _ => rfl) (fun x_89 ls v_89 hl => ?_)
                    refine lv_goto (tgt := 44) hx hb dX4_line_92 (by decide) ?_
                    exact ih44 (k - 1) x_89 f_88 _ _ _ (by omega) (v_89.trans (congrArg iI (by omega))) (hkF) (by omega) (shIs_s hsh hk2 (by omega) e_88 e_87) hP hD hS (lv_sub hl [0, 1, 2, 3, 4, 5] rfl)
            exact key44 _ ((fl (bkL (ka (lo h) Hh) L b) i).length) mn rwi _ _ _ (Nat.lt_succ_self _) (hm) (hp1) (Nat.le_refl _) (shIs_0 hrw) hP hD hS (lv_sub hl [0, 1, 2, 3, 4, 5] rfl)
          · have hiN : i ∉ (bkL (ka (lo h) Hh) L b) := fun q => c_35 (by rw [(bkL_mem.mp q).2])
            refine lv_goto (tgt := 107) hx hb dX4_line_38 (by decide) ?_
            refine lz_iinc (lv2 := fun z => [(4, .int z), (3, .int mn), (0, .ref s0), (1, .int h0), (2, .int b0)]) hx hb dX4_line_107 hl (k := 0) rfl hi (by decide) (fun _ => rfl) (fun x_107 ls v_107 hl => ?_)
            refine lv_goto (tgt := 5) hx hb dX4_line_110 (by decide) ?_
            exact ih5 (i + 1) x_107 mn rwi _ _ _ (by omega) (v_107.trans (congrArg iI (by omega))) (by omega) (by first | exact v_104.trans (congrArg iI (by rw [fl_in_len (bkL_nodup hor) hiM]; omega)) | exact hm.trans (congrArg iI (by rw [fl_out hiN]))) (by first | exact hrw9 | (rw [fl_out hiN]; exact hrw)) hP hD hS (lv_sub hl [0, 1, 2, 3, 4] rfl)
  exact key5 _ 0 x_2 x_0 rw _ _ _ (Nat.lt_succ_self _) (v_2.trans (congrArg iI (by omega))) (by omega) (by rw [fl_0]; exact v_0) (rwIs_0 _ _) hP hD hS (lv_sub hl [0, 1, 2, 3, 4] rfl)
set_option maxHeartbeats 4000000 in
set_option maxRecDepth 100000 in
theorem k_X4_lineAll (l : Launch) (D : va_G) (cI cZ cJ : ClassId) (hz9 : Nat) (s0 : Nat) (h0 : Int32) (sh : Nat) (sa : Nat) (sc : Nat) (sv : Nat) (sr : Nat) (sl : Nat) (sk : Nat) (cg : Int32) (mt : Int32) (qn : Int32) (sw : Nat) (m0 : Nat) (th : Int32) (el : Int32) (m1 : Nat) (m2 : Nat) (gl : Nat → Int32) (fh : Nat → Int32) (fa : Nat → Int32) (fc : Nat → Int32) (rw : Nat → Int32) (n h : Nat) (Hh : Nat → Nat) (av : Nat → Int) (cm : Nat → Nat) (lo : Nat → Nat) (L : List Nat) (hem : embIs el fh n Hh) (hat : atIs fa n av) (hca : caIs fc n cm) (hlw : lowIs gl lo) (hhv : h0 = iI ↑h) (hh2 : h < 2) (hin : inH n av h L) (hor : ord (ka (lo h) Hh) cm L) : Met l yX4_lineAll (ws_ yX4_lineAll cX4_lineAll 5 (Option.some .int)) ({ frames := 4, cells := 0, slots := 0, locals := 86 }) (va_Pc [.ref s0, .int h0] (wPre D cI cZ cJ hz9 [(s0, .inr (4, [.ref sh, .ref sa, .ref sc, .ref sv, .ref sr, .ref sl, .ref sk, .int cg, .int mt, .int qn, .ref sw, .ref m0])), (m0, .inr (5, [.int th, .int el, .ref m1, .ref m2])), (sl, .inl (cI, 2, .inl gl)), (sh, .inl (cI, 40, .inl fh)), (sa, .inl (cI, 40, .inl fa)), (sc, .inl (cI, 40, .inl fc)), (sw, .inl (cI, 40, .inl rw))])) (va_Qi (fun r (u : (Nat → Int32)) => (r = iI (↑L.length)) ∧ (rwIs u L)) (fun (u : (Nat → Int32)) t => wPost D (va_A [(s0, .inr (4, [.ref sh, .ref sa, .ref sc, .ref sv, .ref sr, .ref sl, .ref sk, .int cg, .int mt, .int qn, .ref sw, .ref m0])), (m0, .inr (5, [.int th, .int el, .ref m1, .ref m2])), (sl, .inl (cI, 2, .inl gl)), (sh, .inl (cI, 40, .inl fh)), (sa, .inl (cI, 40, .inl fa)), (sc, .inl (cI, 40, .inl fc)), (sw, .inl (cI, 40, .inl rw))] hz9) [(s0, .inr (4, [.ref sh, .ref sa, .ref sc, .ref sv, .ref sr, .ref sl, .ref sk, .int cg, .int mt, .int qn, .ref sw, .ref m0])), (m0, .inr (5, [.int th, .int el, .ref m1, .ref m2])), (sl, .inl (cI, 2, .inl gl)), (sh, .inl (cI, 40, .inl fh)), (sa, .inl (cI, 40, .inl fa)), (sc, .inl (cI, 40, .inl fc)), (sw, .inl (cI, 40, .inl u))] t) (va_A [(s0, .inr (4, [.ref sh, .ref sa, .ref sc, .ref sv, .ref sr, .ref sl, .ref sk, .int cg, .int mt, .int qn, .ref sw, .ref m0])), (m0, .inr (5, [.int th, .int el, .ref m1, .ref m2])), (sl, .inl (cI, 2, .inl gl)), (sh, .inl (cI, 40, .inl fh)), (sa, .inl (cI, 40, .inl fa)), (sc, .inl (cI, 40, .inl fc)), (sw, .inl (cI, 40, .inl rw))] hz9)) 0 0 (va_A [(s0, .inr (4, [.ref sh, .ref sa, .ref sc, .ref sv, .ref sr, .ref sl, .ref sk, .int cg, .int mt, .int qn, .ref sw, .ref m0])), (m0, .inr (5, [.int th, .int el, .ref m1, .ref m2])), (sl, .inl (cI, 2, .inl gl)), (sh, .inl (cI, 40, .inl fh)), (sa, .inl (cI, 40, .inl fa)), (sc, .inl (cI, 40, .inl fc)), (sw, .inl (cI, 40, .inl rw))] hz9) := by
  refine Met.ofW (cc := cX4_lineAll) (maxL := 5) (ret := (Option.some .int)) (by decide) rfl ?_
  intro p e s m args below meth c s₁ hBd hml hv
  obtain ⟨rfl, hsz, hP, hD, hK, hT, hZ⟩ := hv
  have hx := hBd.exec
  have hb := hBd.bytes
  have hr := hBd.returns
  have hts : ∀ w ∈ lw_G, w.before _ s = true := fun w h => atoms_spec (ws := ws_ yX4_lineAll cX4_lineAll 5 (Option.some .int)) hBd.pre w (List.mem_cons_of_mem _ h)
  have hown : s.vm.findClass RX4 = some m.cls := findClass_of_methodNamed hBd.named
  have hlocks := hBd.notSynchronized
  subst hsz
  have hD := hD.self (sz := s.heap.size)
  have hZA := hZ.own hP
  generalize hAe : va_A [(s0, .inr (4, [.ref sh, .ref sa, .ref sc, .ref sv, .ref sr, .ref sl, .ref sk, .int cg, .int mt, .int qn, .ref sw, .ref m0])), (m0, .inr (5, [.int th, .int el, .ref m1, .ref m2])), (sl, .inl (cI, 2, .inl gl)), (sh, .inl (cI, 40, .inl fh)), (sa, .inl (cI, 40, .inl fa)), (sc, .inl (cI, 40, .inl fc)), (sw, .inl (cI, 40, .inl rw))] s.heap.size = A at hD hZA ⊢
  have hA : ∀ q : Nat, s.heap.size ≤ q → A q := fun q h => by rw [← hAe]; exact Or.inr h
  have hZ := hZA
  have hS : va_S A s.heap s.heap [] := va_S.rf
  have hl := lv_entry ([.ref s0, .int h0]) (n := 5) (Nat.le_of_ble_eq_true rfl)
  rw [lg_entry_eq]
  generalize (lg_sl ([.ref s0, .int h0]) ++ List.replicate (5 - (lg_sl ([.ref s0, .int h0])).length) Slot.unset).toArray = ls at hl ⊢
  have hl : lv_has ls 5 [(0, .ref s0), (1, .int h0)] := hl
  have hP : va_P D vwCl [(s0, .inr (4, [.ref sh, .ref sa, .ref sc, .ref sv, .ref sr, .ref sl, .ref sk, .int cg, .int mt, .int qn, .ref sw, .ref m0])), (m0, .inr (5, [.int th, .int el, .ref m1, .ref m2])), (sl, .inl (cI, 2, .inl gl)), (sh, .inl (cI, 40, .inl fh)), (sa, .inl (cI, 40, .inl fa)), (sc, .inl (cI, 40, .inl fc)), (sw, .inl (cI, 40, .inl rw))] s.heap := hP
  obtain ⟨hn, hn4, hfh⟩ := id hem
  have hlh := (hlw h hh2).2
  have hLn : ∀ x ∈ L, x < n := fun x hx => ((hin x).mp hx).1
  have hll := inH_nodup_len (ord_nodup hor) hLn
  refine lz_iconst hx hb dX4_lineAll_0 (fun x_0 v_0 => ?_)
  refine lv_istore_n (lv' := [(2, .int x_0), (0, .ref s0), (1, .int h0)]) hx hb dX4_lineAll_1 rfl hl (by decide) rfl (fun ls hl => ?_)
  refine lz_iconst hx hb dX4_lineAll_2 (fun x_2 v_2 => ?_)
  refine lv_istore_n (lv' := [(3, .int x_2), (2, .int x_0), (0, .ref s0), (1, .int h0)]) hx hb dX4_lineAll_3 rfl hl (by decide) rfl (fun ls hl => ?_)
  have key4 : ∀ (fu : Nat) (i : Nat) (ii : Int32) (mn : Int32) (rwi : Nat → Int32) (H : Heap) (locs : List Loc) (ls : Array Slot), n + 1 - i < fu → (ii = iI (↑i)) → (i ≤ n) → (mn = iI (↑(fl L i).length)) → (rwIs rwi (fl L i)) → va_P D vwCl [(s0, .inr (4, [.ref sh, .ref sa, .ref sc, .ref sv, .ref sr, .ref sl, .ref sk, .int cg, .int mt, .int qn, .ref sw, .ref m0])), (m0, .inr (5, [.int th, .int el, .ref m1, .ref m2])), (sl, .inl (cI, 2, .inl gl)), (sh, .inl (cI, 40, .inl fh)), (sa, .inl (cI, 40, .inl fa)), (sc, .inl (cI, 40, .inl fc)), (sw, .inl (cI, 40, .inl rwi))] H → va_D A [(s0, .inr (4, [.ref sh, .ref sa, .ref sc, .ref sv, .ref sr, .ref sl, .ref sk, .int cg, .int mt, .int qn, .ref sw, .ref m0])), (m0, .inr (5, [.int th, .int el, .ref m1, .ref m2])), (sl, .inl (cI, 2, .inl gl)), (sh, .inl (cI, 40, .inl fh)), (sa, .inl (cI, 40, .inl fa)), (sc, .inl (cI, 40, .inl fc)), (sw, .inl (cI, 40, .inl rwi))] → va_S A s.heap H locs → lv_has ls 5 [(3, .int ii), (2, .int mn), (0, .ref s0), (1, .int h0)] → W p l e (headSpec (ws_ yX4_lineAll cX4_lineAll 5 (Option.some .int)) ({ frames := 4, cells := 0, slots := 0, locals := 86 })).room s m ([.ref s0, .int h0] : List Value).toArray below meth c H locs 0 0 (MQ below (va_Qi (fun r (u : (Nat → Int32)) => (r = iI (↑L.length)) ∧ (rwIs u L)) (fun (u : (Nat → Int32)) t => wPost D A [(s0, .inr (4, [.ref sh, .ref sa, .ref sc, .ref sv, .ref sr, .ref sl, .ref sk, .int cg, .int mt, .int qn, .ref sw, .ref m0])), (m0, .inr (5, [.int th, .int el, .ref m1, .ref m2])), (sl, .inl (cI, 2, .inl gl)), (sh, .inl (cI, 40, .inl fh)), (sa, .inl (cI, 40, .inl fa)), (sc, .inl (cI, 40, .inl fc)), (sw, .inl (cI, 40, .inl u))] t) A) ([.ref s0, .int h0] : List Value).toArray s 0 0 A) (F0 m 4 ls []) := by
    intro fu
    induction fu with
    | zero => intros; omega
    | succ fu ih4 =>
      intro i ii mn rwi H locs ls hfu hi hle hm hrw hP hD hS hl
      refine lv_iload_n hx hb dX4_lineAll_4 rfl (lv_at hl 0 rfl) ?_
      refine lv_aload_n hx hb dX4_lineAll_5 rfl (lv_at hl 2 rfl) ?_
      refine va_get (D := D) (ci := 4) (v := .ref m0) (C := RX4) (T := TX4) (N := 12) hx hb hts iX4 hown hK hP 0 rfl rfl 11 (by decide) (hts _ qw614) (fun _ h9 => h9) rfl dX4_lineAll_6 ?_
      refine va_getN (D := D) (ci := 5) (v := .int el) (C := RX5) (T := TX5) (N := 4) hx hb hts iX5 hown hK hP 1 rfl rfl 1 (by decide) (va_Nw.use rfl (hT.1 _ nw624)) (fun _ h9 => h9) rfl dX4_lineAll_9 ?_
      refine lz_icmp_ge (tgt := 92) hx hb hi hn ⟨by omega, by omega⟩ dX4_lineAll_12 (by decide) (fun c_12 => ?_) (fun c_12 => ?_)
      · have hfM : fl L i = L := fl_all (fun x hx => Nat.lt_of_lt_of_le (hLn x hx) (show n ≤ i by omega))
        rw [hfM] at hm hrw
        refine lv_iload_n hx hb dX4_lineAll_92 rfl (lv_at hl 1 rfl) ?_
        have hP9 := va_P_subm (ws' := [(s0, .inr (4, [.ref sh, .ref sa, .ref sc, .ref sv, .ref sr, .ref sl, .ref sk, .int cg, .int mt, .int qn, .ref sw, .ref m0])), (m0, .inr (5, [.int th, .int el, .ref m1, .ref m2])), (sl, .inl (cI, 2, .inl gl)), (sh, .inl (cI, 40, .inl fh)), (sa, .inl (cI, 40, .inl fa)), (sc, .inl (cI, 40, .inl fc)), (sw, .inl (cI, 40, .inl rwi))]) hP [0, 1, 2, 3, 4, 5, 6] rfl
        have hD9 := hD.sub (ws' := [(s0, .inr (4, [.ref sh, .ref sa, .ref sc, .ref sv, .ref sr, .ref sl, .ref sk, .int cg, .int mt, .int qn, .ref sw, .ref m0])), (m0, .inr (5, [.int th, .int el, .ref m1, .ref m2])), (sl, .inl (cI, 2, .inl gl)), (sh, .inl (cI, 40, .inl fh)), (sa, .inl (cI, 40, .inl fa)), (sc, .inl (cI, 40, .inl fc)), (sw, .inl (cI, 40, .inl rwi))]) [0, 1, 2, 3, 4, 5, 6] rfl rfl
        exact W.iret (v := mn) hx hb hr (fun t ht hW => ⟨⟨mn, rwi, rfl, ⟨hm, hrw⟩, ⟨by rw [ht]; exact hP9, hD9⟩⟩, hS.F ht⟩) hS.2.2 dX4_lineAll_93
      · refine lv_aload_n hx hb dX4_lineAll_15 rfl (lv_at hl 2 rfl) ?_
        refine va_get (D := D) (ci := 4) (v := .ref sa) (C := RX4) (T := TX4) (N := 12) hx hb hts iX4 hown hK hP 0 rfl rfl 1 (by decide) (hts _ qw596) (fun _ h9 => h9) rfl dX4_lineAll_16 ?_
        refine lv_iload_n hx hb dX4_lineAll_19 rfl (lv_at hl 0 rfl) ?_
        have hai := hat i (by omega)
        refine lz_iald hx hb hK hP 4 0 rfl rfl hi (i) (by omega) (by omega) (by decide) dX4_lineAll_20 (fun x_20 e_20 => ?_)
        have v_20 : x_20 = iI (av i) := e_20.trans ((hat _ (by omega)).1)
        refine lv_iload_n hx hb dX4_lineAll_21 rfl (lv_at hl 3 rfl) ?_
        refine lz_icmp_eq (tgt := 28) hx hb v_20 hhv ⟨by omega, by omega⟩ dX4_lineAll_22 (by decide) (fun c_22 => ?_) (fun c_22 => ?_)
        · have hiM : i ∈ L := (hin i).mpr ⟨by omega, c_22⟩
          obtain ⟨p9, hp1, hp2, hp3, hp4⟩ := fl_split hor (ord_nodup hor) hiM
          have hYl : (fl L i).length < 40 := by have h8 := fl_in_len (ord_nodup hor) hiM; have h9 := fl_len L (i + 1); omega
          refine lv_iload_n hx hb dX4_lineAll_28 rfl (lv_at hl 1 rfl) ?_
          refine lv_istore (lv' := [(4, .int mn), (3, .int ii), (2, .int mn), (0, .ref s0), (1, .int h0)]) hx hb dX4_lineAll_29 hl (by decide) rfl (fun ls hl => ?_)
          have key31 : ∀ (fu : Nat) (k : Nat) (kk : Int32) (rwk : Nat → Int32) (H : Heap) (locs : List Loc) (ls : Array Slot), k + 1 < fu → (kk = iI (↑k)) → (p9 ≤ k) → (k ≤ (fl L i).length) → (shIs rwk (fl L i) k) → va_P D vwCl [(s0, .inr (4, [.ref sh, .ref sa, .ref sc, .ref sv, .ref sr, .ref sl, .ref sk, .int cg, .int mt, .int qn, .ref sw, .ref m0])), (m0, .inr (5, [.int th, .int el, .ref m1, .ref m2])), (sl, .inl (cI, 2, .inl gl)), (sh, .inl (cI, 40, .inl fh)), (sa, .inl (cI, 40, .inl fa)), (sc, .inl (cI, 40, .inl fc)), (sw, .inl (cI, 40, .inl rwk))] H → va_D A [(s0, .inr (4, [.ref sh, .ref sa, .ref sc, .ref sv, .ref sr, .ref sl, .ref sk, .int cg, .int mt, .int qn, .ref sw, .ref m0])), (m0, .inr (5, [.int th, .int el, .ref m1, .ref m2])), (sl, .inl (cI, 2, .inl gl)), (sh, .inl (cI, 40, .inl fh)), (sa, .inl (cI, 40, .inl fa)), (sc, .inl (cI, 40, .inl fc)), (sw, .inl (cI, 40, .inl rwk))] → va_S A s.heap H locs → lv_has ls 5 [(4, .int kk), (3, .int ii), (2, .int mn), (0, .ref s0), (1, .int h0)] → W p l e (headSpec (ws_ yX4_lineAll cX4_lineAll 5 (Option.some .int)) ({ frames := 4, cells := 0, slots := 0, locals := 86 })).room s m ([.ref s0, .int h0] : List Value).toArray below meth c H locs 0 0 (MQ below (va_Qi (fun r (u : (Nat → Int32)) => (r = iI (↑L.length)) ∧ (rwIs u L)) (fun (u : (Nat → Int32)) t => wPost D A [(s0, .inr (4, [.ref sh, .ref sa, .ref sc, .ref sv, .ref sr, .ref sl, .ref sk, .int cg, .int mt, .int qn, .ref sw, .ref m0])), (m0, .inr (5, [.int th, .int el, .ref m1, .ref m2])), (sl, .inl (cI, 2, .inl gl)), (sh, .inl (cI, 40, .inl fh)), (sa, .inl (cI, 40, .inl fa)), (sc, .inl (cI, 40, .inl fc)), (sw, .inl (cI, 40, .inl u))] t) A) ([.ref s0, .int h0] : List Value).toArray s 0 0 A) (F0 m 31 ls []) := by
            intro fu
            induction fu with
            | zero => intros; omega
            | succ fu ih31 =>
              intro k kk rwk H locs ls hfu hk hk1 hk2 hsh hP hD hS hl
              refine lv_iload hx hb dX4_lineAll_31 (lv_at hl 0 rfl) ?_
              refine lz_if_le (tgt := 75) hx hb hk (by omega) dX4_lineAll_33 (by decide) (fun c_33 => ?_) (fun c_33 => ?_)
              · have hkp : k = p9 := by omega
                refine lv_aload_n hx hb dX4_lineAll_75 rfl (lv_at hl 3 rfl) ?_
                refine va_get (D := D) (ci := 4) (v := .ref sw) (C := RX4) (T := TX4) (N := 12) hx hb hts iX4 hown hK hP 0 rfl rfl 10 (by decide) (hts _ qw612) (fun _ h9 => h9) rfl dX4_lineAll_76 ?_
                refine lv_iload hx hb dX4_lineAll_79 (lv_at hl 0 rfl) ?_
                refine lv_iload_n hx hb dX4_lineAll_81 rfl (lv_at hl 1 rfl) ?_
                refine lz_iast hx hb hK hP hD hS 6 0 rfl rfl hk (k) (by omega) (by omega) (by decide) (ws2 := fun z => [(s0, .inr (4, [.ref sh, .ref sa, .ref sc, .ref sv, .ref sr, .ref sl, .ref sk, .int cg, .int mt, .int qn, .ref sw, .ref m0])), (m0, .inr (5, [.int th, .int el, .ref m1, .ref m2])), (sl, .inl (cI, 2, .inl gl)), (sh, .inl (cI, 40, .inl fh)), (sa, .inl (cI, 40, .inl fa)), (sc, .inl (cI, 40, .inl fc)), (sw, .inl (cI, 40, .inl z))]) (fun _ => rfl) dX4_lineAll_82 (fun f_82 H locs e_82 hP hD hS => ?_)
                have hP : va_P D vwCl [(s0, .inr (4, [.ref sh, .ref sa, .ref sc, .ref sv, .ref sr, .ref sl, .ref sk, .int cg, .int mt, .int qn, .ref sw, .ref m0])), (m0, .inr (5, [.int th, .int el, .ref m1, .ref m2])), (sl, .inl (cI, 2, .inl gl)), (sh, .inl (cI, 40, .inl fh)), (sa, .inl (cI, 40, .inl fa)), (sc, .inl (cI, 40, .inl fc)), (sw, .inl (cI, 40, .inl f_82))] H := hP
                have hD : va_D A [(s0, .inr (4, [.ref sh, .ref sa, .ref sc, .ref sv, .ref sr, .ref sl, .ref sk, .int cg, .int mt, .int qn, .ref sw, .ref m0])), (m0, .inr (5, [.int th, .int el, .ref m1, .ref m2])), (sl, .inl (cI, 2, .inl gl)), (sh, .inl (cI, 40, .inl fh)), (sa, .inl (cI, 40, .inl fa)), (sc, .inl (cI, 40, .inl fc)), (sw, .inl (cI, 40, .inl f_82))] := hD
                have hrw9 : rwIs f_82 (fl L (i + 1)) := shIs_end hsh hk2 e_82 hi (by rw [hkp]; exact hp4)
                refine lz_iinc (lv2 := fun z => [(2, .int z), (4, .int kk), (3, .int ii), (0, .ref s0), (1, .int h0)]) hx hb dX4_lineAll_83 hl (k := 2) rfl hm (by decide) (fun _ => rfl) (fun x_83 ls v_83 hl => ?_)
                refine lz_iinc (lv2 := fun z => [(3, .int z), (2, .int x_83), (4, .int kk), (0, .ref s0), (1, .int h0)]) hx hb dX4_lineAll_86 hl (k := 2) rfl hi (by decide) (fun _ => rfl) (fun x_86 ls v_86 hl => ?_)
                refine lv_goto (tgt := 4) hx hb dX4_lineAll_89 (by decide) ?_
                exact ih4 (i + 1) x_86 x_83 f_82 _ _ _ (by omega) (v_86.trans (congrArg iI (by omega))) (by omega) (by first | exact v_83.trans (congrArg iI (by rw [fl_in_len (ord_nodup hor) hiM]; omega)) | exact hm.trans (congrArg iI (by rw [fl_out hiN]))) (by first | exact hrw9 | (rw [fl_out hiN]; exact hrw)) hP hD hS (lv_sub hl [0, 1, 3, 4] rfl)
              · have hyb := fl_bd (i := i) (j := k - 1) hLn (by omega)
                refine lv_aload_n hx hb dX4_lineAll_36 rfl (lv_at hl 3 rfl) ?_
                refine lv_iload_n hx hb dX4_lineAll_37 rfl (lv_at hl 1 rfl) ?_
                refine lv_aload_n hx hb dX4_lineAll_38 rfl (lv_at hl 3 rfl) ?_
                refine va_get (D := D) (ci := 4) (v := .ref sw) (C := RX4) (T := TX4) (N := 12) hx hb hts iX4 hown hK hP 0 rfl rfl 10 (by decide) (hts _ qw612) (fun _ h9 => h9) rfl dX4_lineAll_39 ?_
                refine lv_iload hx hb dX4_lineAll_42 (lv_at hl 0 rfl) ?_
                refine lz_iconst hx hb dX4_lineAll_44 (fun x_44 v_44 => ?_)
                refine lz_isub hx hb hk v_44 dX4_lineAll_45 (fun x_45 v_45 => ?_)
                refine lz_iald hx hb hK hP 6 0 rfl rfl v_45 (k - 1) (by omega) (by omega) (by decide) dX4_lineAll_46 (fun x_46 e_46 => ?_)
                have v_46 : x_46 = iI (↑((fl L i).getD (k - 1) 0)) := e_46.trans (hsh.1 _ (by omega))
                refine cr_i (va_runV (As := [.int ii, .int x_46]) (rest := []) ⟨hx, hb, hml, hown, hts⟩ (k_X4_isAhead l D cI cZ cJ _ s0 ii x_46 sh sa sc sv sr sl sk cg mt qn sw m0 th el m1 m2 gl fh fa fc n h i ((fl L i).getD (k - 1) 0) Hh av cm lo (hem) (hat) (hca) (hlw) (by omega) (hi.trans (congrArg iI (by omega))) (v_46.trans (congrArg iI (by omega))) (by omega) (hyb.1) (c_22) (((hin _).mp hyb.2).2)) (cwV 2 hts (gV qw748 qw750 qw13 qw24 qw751) rfl rfl rfl (by decide +kernel) ⟨Nat.le_of_ble_eq_true rfl, Nat.le_of_ble_eq_true rfl⟩) (pv (ci := 4) (r := (RX4, TX4, 12)) (q0 := 0) hP hD hK hT hZ hS [0, 1, 2, 3, 4, 5] rfl rfl rfl rfl) rfl rfl hl.1 rfl (lv_room (Nat.le_of_ble_eq_true rfl)) dX4_lineAll_47 ⟨Nat.le_of_ble_eq_true rfl, Nat.le_of_ble_eq_true rfl⟩) hS hP (fun x_47 H locs hw_47 hP hS => ?_)
                have hw_47 : (x_47 = iI (if (ka (lo h) Hh i < ka (lo h) Hh ((fl L i).getD (k - 1) 0) ∨ (ka (lo h) Hh i = ka (lo h) Hh ((fl L i).getD (k - 1) 0) ∧ cm i < cm ((fl L i).getD (k - 1) 0))) then 1 else 0)) := hw_47
                have v_47 := hw_47
                refine lz_if_eq (tgt := 75) hx hb v_47 (by omega) dX4_lineAll_50 (by decide) (fun c_50 => ?_) (fun c_50 => ?_)
                · have hxx : ¬ (ka (lo h) Hh i < ka (lo h) Hh ((fl L i).getD (k - 1) 0) ∨ (ka (lo h) Hh i = ka (lo h) Hh ((fl L i).getD (k - 1) 0) ∧ cm i < cm ((fl L i).getD (k - 1) 0))) := by intro q9; rw [if_pos q9] at c_50; omega
                  have hkp : k = p9 := by rcases Nat.lt_or_ge p9 k with q9 | q9; (exact absurd (hp3 (k - 1) (by omega) (by omega)) hxx); omega
                  refine lv_aload_n hx hb dX4_lineAll_75 rfl (lv_at hl 3 rfl) ?_
                  refine va_get (D := D) (ci := 4) (v := .ref sw) (C := RX4) (T := TX4) (N := 12) hx hb hts iX4 hown hK hP 0 rfl rfl 10 (by decide) (hts _ qw612) (fun _ h9 => h9) rfl dX4_lineAll_76 ?_
                  refine lv_iload hx hb dX4_lineAll_79 (lv_at hl 0 rfl) ?_
                  refine lv_iload_n hx hb dX4_lineAll_81 rfl (lv_at hl 1 rfl) ?_
                  refine lz_iast hx hb hK hP hD hS 6 0 rfl rfl hk (k) (by omega) (by omega) (by decide) (ws2 := fun z => [(s0, .inr (4, [.ref sh, .ref sa, .ref sc, .ref sv, .ref sr, .ref sl, .ref sk, .int cg, .int mt, .int qn, .ref sw, .ref m0])), (m0, .inr (5, [.int th, .int el, .ref m1, .ref m2])), (sl, .inl (cI, 2, .inl gl)), (sh, .inl (cI, 40, .inl fh)), (sa, .inl (cI, 40, .inl fa)), (sc, .inl (cI, 40, .inl fc)), (sw, .inl (cI, 40, .inl z))]) (fun _ => rfl) dX4_lineAll_82 (fun f_82 H locs e_82 hP hD hS => ?_)
                  have hP : va_P D vwCl [(s0, .inr (4, [.ref sh, .ref sa, .ref sc, .ref sv, .ref sr, .ref sl, .ref sk, .int cg, .int mt, .int qn, .ref sw, .ref m0])), (m0, .inr (5, [.int th, .int el, .ref m1, .ref m2])), (sl, .inl (cI, 2, .inl gl)), (sh, .inl (cI, 40, .inl fh)), (sa, .inl (cI, 40, .inl fa)), (sc, .inl (cI, 40, .inl fc)), (sw, .inl (cI, 40, .inl f_82))] H := hP
                  have hD : va_D A [(s0, .inr (4, [.ref sh, .ref sa, .ref sc, .ref sv, .ref sr, .ref sl, .ref sk, .int cg, .int mt, .int qn, .ref sw, .ref m0])), (m0, .inr (5, [.int th, .int el, .ref m1, .ref m2])), (sl, .inl (cI, 2, .inl gl)), (sh, .inl (cI, 40, .inl fh)), (sa, .inl (cI, 40, .inl fa)), (sc, .inl (cI, 40, .inl fc)), (sw, .inl (cI, 40, .inl f_82))] := hD
                  have hrw9 : rwIs f_82 (fl L (i + 1)) := shIs_end hsh hk2 e_82 hi (by rw [hkp]; exact hp4)
                  refine lz_iinc (lv2 := fun z => [(2, .int z), (4, .int kk), (3, .int ii), (0, .ref s0), (1, .int h0)]) hx hb dX4_lineAll_83 hl (k := 2) rfl hm (by decide) (fun _ => rfl) (fun x_83 ls v_83 hl => ?_)
                  refine lz_iinc (lv2 := fun z => [(3, .int z), (2, .int x_83), (4, .int kk), (0, .ref s0), (1, .int h0)]) hx hb dX4_lineAll_86 hl (k := 2) rfl hi (by decide) (fun _ => rfl) (fun x_86 ls v_86 hl => ?_)
                  refine lv_goto (tgt := 4) hx hb dX4_lineAll_89 (by decide) ?_
                  exact ih4 (i + 1) x_86 x_83 f_82 _ _ _ (by omega) (v_86.trans (congrArg iI (by omega))) (by omega) (by first | exact v_83.trans (congrArg iI (by rw [fl_in_len (ord_nodup hor) hiM]; omega)) | exact hm.trans (congrArg iI (by rw [fl_out hiN]))) (by first | exact hrw9 | (rw [fl_out hiN]; exact hrw)) hP hD hS (lv_sub hl [0, 1, 3, 4] rfl)
                · have hxx : (ka (lo h) Hh i < ka (lo h) Hh ((fl L i).getD (k - 1) 0) ∨ (ka (lo h) Hh i = ka (lo h) Hh ((fl L i).getD (k - 1) 0) ∧ cm i < cm ((fl L i).getD (k - 1) 0))) := by by_cases q9 : (ka (lo h) Hh i < ka (lo h) Hh ((fl L i).getD (k - 1) 0) ∨ (ka (lo h) Hh i = ka (lo h) Hh ((fl L i).getD (k - 1) 0) ∧ cm i < cm ((fl L i).getD (k - 1) 0))); exact q9; (rw [if_neg q9] at c_50; omega)
                  have hkF : p9 ≤ k - 1 := by rcases Nat.lt_or_ge (k - 1) p9 with q9 | q9; (have h9 := hp2 (k - 1) q9; unfold lex at h9; omega); exact q9
                  refine lv_aload_n hx hb dX4_lineAll_53 rfl (lv_at hl 3 rfl) ?_
                  refine va_get (D := D) (ci := 4) (v := .ref sw) (C := RX4) (T := TX4) (N := 12) hx hb hts iX4 hown hK hP 0 rfl rfl 10 (by decide) (hts _ qw612) (fun _ h9 => h9) rfl dX4_lineAll_54 ?_
                  refine lv_iload hx hb dX4_lineAll_57 (lv_at hl 0 rfl) ?_
                  refine lv_aload_n hx hb dX4_lineAll_59 rfl (lv_at hl 3 rfl) ?_
                  refine va_get (D := D) (ci := 4) (v := .ref sw) (C := RX4) (T := TX4) (N := 12) hx hb hts iX4 hown hK hP 0 rfl rfl 10 (by decide) (hts _ qw612) (fun _ h9 => h9) rfl dX4_lineAll_60 ?_
                  refine lv_iload hx hb dX4_lineAll_63 (lv_at hl 0 rfl) ?_
                  refine lz_iconst hx hb dX4_lineAll_65 (fun x_65 v_65 => ?_)
                  refine lz_isub hx hb hk v_65 dX4_lineAll_66 (fun x_66 v_66 => ?_)
                  refine lz_iald hx hb hK hP 6 0 rfl rfl v_66 (k - 1) (by omega) (by omega) (by decide) dX4_lineAll_67 (fun x_67 e_67 => ?_)
                  have v_67 : x_67 = iI (↑((fl L i).getD (k - 1) 0)) := e_67.trans (hsh.1 _ (by omega))
                  refine lz_iast hx hb hK hP hD hS 6 0 rfl rfl hk (k) (by omega) (by omega) (by decide) (ws2 := fun z => [(s0, .inr (4, [.ref sh, .ref sa, .ref sc, .ref sv, .ref sr, .ref sl, .ref sk, .int cg, .int mt, .int qn, .ref sw, .ref m0])), (m0, .inr (5, [.int th, .int el, .ref m1, .ref m2])), (sl, .inl (cI, 2, .inl gl)), (sh, .inl (cI, 40, .inl fh)), (sa, .inl (cI, 40, .inl fa)), (sc, .inl (cI, 40, .inl fc)), (sw, .inl (cI, 40, .inl z))]) (fun _ => rfl) dX4_lineAll_68 (fun f_68 H locs e_68 hP hD hS => ?_)
                  have hP : va_P D vwCl [(s0, .inr (4, [.ref sh, .ref sa, .ref sc, .ref sv, .ref sr, .ref sl, .ref sk, .int cg, .int mt, .int qn, .ref sw, .ref m0])), (m0, .inr (5, [.int th, .int el, .ref m1, .ref m2])), (sl, .inl (cI, 2, .inl gl)), (sh, .inl (cI, 40, .inl fh)), (sa, .inl (cI, 40, .inl fa)), (sc, .inl (cI, 40, .inl fc)), (sw, .inl (cI, 40, .inl f_68))] H := hP
                  have hD : va_D A [(s0, .inr (4, [.ref sh, .ref sa, .ref sc, .ref sv, .ref sr, .ref sl, .ref sk, .int cg, .int mt, .int qn, .ref sw, .ref m0])), (m0, .inr (5, [.int th, .int el, .ref m1, .ref m2])), (sl, .inl (cI, 2, .inl gl)), (sh, .inl (cI, 40, .inl fh)), (sa, .inl (cI, 40, .inl fa)), (sc, .inl (cI, 40, .inl fc)), (sw, .inl (cI, 40, .inl f_68))] := hD
                  refine lz_iinc (lv2 := fun z => [(4, .int z), (3, .int ii), (2, .int mn), (0, .ref s0), (1, .int h0)]) hx hb dX4_lineAll_69 hl (k := 0) rfl hk (by decide) (fun _ => rfl) (fun x_69 ls v_69 hl => ?_)
                  refine lv_goto (tgt := 31) hx hb dX4_lineAll_72 (by decide) ?_
                  exact ih31 (k - 1) x_69 f_68 _ _ _ (by omega) (v_69.trans (congrArg iI (by omega))) (hkF) (by omega) (shIs_s hsh hk2 (by omega) e_68 e_67) hP hD hS (lv_sub hl [0, 1, 2, 3, 4] rfl)
          exact key31 _ ((fl L i).length) mn rwi _ _ _ (Nat.lt_succ_self _) (hm) (hp1) (Nat.le_refl _) (shIs_0 hrw) hP hD hS (lv_sub hl [0, 1, 2, 3, 4] rfl)
        · have hiN : i ∉ L := fun q => c_22 ((hin i).mp q).2
          refine lv_goto (tgt := 86) hx hb dX4_lineAll_25 (by decide) ?_
          refine lz_iinc (lv2 := fun z => [(3, .int z), (2, .int mn), (0, .ref s0), (1, .int h0)]) hx hb dX4_lineAll_86 hl (k := 0) rfl hi (by decide) (fun _ => rfl) (fun x_86 ls v_86 hl => ?_)
          refine lv_goto (tgt := 4) hx hb dX4_lineAll_89 (by decide) ?_
          exact ih4 (i + 1) x_86 mn rwi _ _ _ (by omega) (v_86.trans (congrArg iI (by omega))) (by omega) (by first | exact v_83.trans (congrArg iI (by rw [fl_in_len (ord_nodup hor) hiM]; omega)) | exact hm.trans (congrArg iI (by rw [fl_out hiN]))) (by first | exact hrw9 | (rw [fl_out hiN]; exact hrw)) hP hD hS (lv_sub hl [0, 1, 2, 3] rfl)
  exact key4 _ 0 x_2 x_0 rw _ _ _ (Nat.lt_succ_self _) (v_2.trans (congrArg iI (by omega))) (by omega) (by rw [fl_0]; exact v_0) (rwIs_0 _ _) hP hD hS (lv_sub hl [0, 1, 2, 3] rfl)
set_option maxHeartbeats 4000000 in
set_option maxRecDepth 100000 in
theorem k_X4_put (l : Launch) (D : va_G) (cI cZ cJ : ClassId) (hz9 : Nat) (s0 : Nat) (x0 : Int32) (h0 : Int32) (sh : Nat) (sa : Nat) (sc : Nat) (sv : Nat) (sr : Nat) (sl : Nat) (sk : Nat) (cg : Int32) (mt : Int32) (qn : Int32) (sw : Nat) (m0 : Nat) (fa : Nat → Int32) (fc : Nat → Int32) (x : Nat) (hxv : x0 = iI ↑x) (hx4 : x < 40) : Met l yX4_put (ws_ yX4_put cX4_put 3 (Option.none : Option Jvm.ClassFile.FieldType)) ({ frames := 0, cells := 0, slots := 0, locals := 0 }) (va_Pc [.ref s0, .int x0, .int h0] (wPre D cI cZ cJ hz9 [(s0, .inr (4, [.ref sh, .ref sa, .ref sc, .ref sv, .ref sr, .ref sl, .ref sk, .int cg, .int mt, .int qn, .ref sw, .ref m0])), (sa, .inl (cI, 40, .inl fa)), (sc, .inl (cI, 40, .inl fc))])) (va_Qv (fun (u : Int32 × (Nat → Int32) × (Nat → Int32)) => (u.2.1 = upd fa x h0) ∧ (u.2.2 = upd fc x cg) ∧ (u.1 = cg + 1)) (fun (u : Int32 × (Nat → Int32) × (Nat → Int32)) t => wPost D (va_A [(s0, .inr (4, [.ref sh, .ref sa, .ref sc, .ref sv, .ref sr, .ref sl, .ref sk, .int cg, .int mt, .int qn, .ref sw, .ref m0])), (sa, .inl (cI, 40, .inl fa)), (sc, .inl (cI, 40, .inl fc))] hz9) [(s0, .inr (4, [.ref sh, .ref sa, .ref sc, .ref sv, .ref sr, .ref sl, .ref sk, .int u.1, .int mt, .int qn, .ref sw, .ref m0])), (sa, .inl (cI, 40, .inl u.2.1)), (sc, .inl (cI, 40, .inl u.2.2))] t) (va_A [(s0, .inr (4, [.ref sh, .ref sa, .ref sc, .ref sv, .ref sr, .ref sl, .ref sk, .int cg, .int mt, .int qn, .ref sw, .ref m0])), (sa, .inl (cI, 40, .inl fa)), (sc, .inl (cI, 40, .inl fc))] hz9)) 0 0 (va_A [(s0, .inr (4, [.ref sh, .ref sa, .ref sc, .ref sv, .ref sr, .ref sl, .ref sk, .int cg, .int mt, .int qn, .ref sw, .ref m0])), (sa, .inl (cI, 40, .inl fa)), (sc, .inl (cI, 40, .inl fc))] hz9) := by
  refine Met.ofW (cc := cX4_put) (maxL := 3) (ret := (Option.none : Option Jvm.ClassFile.FieldType)) (by decide) rfl ?_
  intro p e s m args below meth c s₁ hBd hml hv
  obtain ⟨rfl, hsz, hP, hD, hK, hT, hZ⟩ := hv
  have hx := hBd.exec
  have hb := hBd.bytes
  have hr := hBd.returns
  have hts : ∀ w ∈ lw_G, w.before _ s = true := fun w h => atoms_spec (ws := ws_ yX4_put cX4_put 3 (Option.none : Option Jvm.ClassFile.FieldType)) hBd.pre w (List.mem_cons_of_mem _ h)
  have hown : s.vm.findClass RX4 = some m.cls := findClass_of_methodNamed hBd.named
  have hlocks := hBd.notSynchronized
  subst hsz
  have hD := hD.self (sz := s.heap.size)
  have hZA := hZ.own hP
  generalize hAe : va_A [(s0, .inr (4, [.ref sh, .ref sa, .ref sc, .ref sv, .ref sr, .ref sl, .ref sk, .int cg, .int mt, .int qn, .ref sw, .ref m0])), (sa, .inl (cI, 40, .inl fa)), (sc, .inl (cI, 40, .inl fc))] s.heap.size = A at hD hZA ⊢
  have hA : ∀ q : Nat, s.heap.size ≤ q → A q := fun q h => by rw [← hAe]; exact Or.inr h
  have hZ := hZA
  have hS : va_S A s.heap s.heap [] := va_S.rf
  have hl := lv_entry ([.ref s0, .int x0, .int h0]) (n := 3) (Nat.le_of_ble_eq_true rfl)
  rw [lg_entry_eq]
  generalize (lg_sl ([.ref s0, .int x0, .int h0]) ++ List.replicate (3 - (lg_sl ([.ref s0, .int x0, .int h0])).length) Slot.unset).toArray = ls at hl ⊢
  have hl : lv_has ls 3 [(0, .ref s0), (1, .int x0), (2, .int h0)] := hl
  have hP : va_P D vwCl [(s0, .inr (4, [.ref sh, .ref sa, .ref sc, .ref sv, .ref sr, .ref sl, .ref sk, .int cg, .int mt, .int qn, .ref sw, .ref m0])), (sa, .inl (cI, 40, .inl fa)), (sc, .inl (cI, 40, .inl fc))] s.heap := hP
  refine lv_aload_n hx hb dX4_put_0 rfl (lv_at hl 0 rfl) ?_
  refine va_get (D := D) (ci := 4) (v := .ref sa) (C := RX4) (T := TX4) (N := 12) hx hb hts iX4 hown hK hP 0 rfl rfl 1 (by decide) (hts _ qw596) (fun _ h9 => h9) rfl dX4_put_1 ?_
  refine lv_iload_n hx hb dX4_put_4 rfl (lv_at hl 1 rfl) ?_
  refine lv_iload_n hx hb dX4_put_5 rfl (lv_at hl 2 rfl) ?_
  refine lz_iast hx hb hK hP hD hS 1 0 rfl rfl hxv (x) (by omega) (by omega) (by decide) (ws2 := fun z => [(s0, .inr (4, [.ref sh, .ref sa, .ref sc, .ref sv, .ref sr, .ref sl, .ref sk, .int cg, .int mt, .int qn, .ref sw, .ref m0])), (sa, .inl (cI, 40, .inl z)), (sc, .inl (cI, 40, .inl fc))]) (fun _ => rfl) dX4_put_6 (fun f_6 H locs e_6 hP hD hS => ?_)
  have hP : va_P D vwCl [(s0, .inr (4, [.ref sh, .ref sa, .ref sc, .ref sv, .ref sr, .ref sl, .ref sk, .int cg, .int mt, .int qn, .ref sw, .ref m0])), (sa, .inl (cI, 40, .inl f_6)), (sc, .inl (cI, 40, .inl fc))] H := hP
  have hD : va_D A [(s0, .inr (4, [.ref sh, .ref sa, .ref sc, .ref sv, .ref sr, .ref sl, .ref sk, .int cg, .int mt, .int qn, .ref sw, .ref m0])), (sa, .inl (cI, 40, .inl f_6)), (sc, .inl (cI, 40, .inl fc))] := hD
  refine lv_aload_n hx hb dX4_put_7 rfl (lv_at hl 0 rfl) ?_
  refine va_get (D := D) (ci := 4) (v := .ref sc) (C := RX4) (T := TX4) (N := 12) hx hb hts iX4 hown hK hP 0 rfl rfl 2 (by decide) (hts _ qw598) (fun _ h9 => h9) rfl dX4_put_8 ?_
  refine lv_iload_n hx hb dX4_put_11 rfl (lv_at hl 1 rfl) ?_
  refine lv_aload_n hx hb dX4_put_12 rfl (lv_at hl 0 rfl) ?_
  refine va_get (D := D) (ci := 4) (v := .int cg) (C := RX4) (T := TX4) (N := 12) hx hb hts iX4 hown hK hP 0 rfl rfl 7 (by decide) (hts _ qw607) (fun _ h9 => h9) rfl dX4_put_13 ?_
  refine lz_iast hx hb hK hP hD hS 2 0 rfl rfl hxv (x) (by omega) (by omega) (by decide) (ws2 := fun z => [(s0, .inr (4, [.ref sh, .ref sa, .ref sc, .ref sv, .ref sr, .ref sl, .ref sk, .int cg, .int mt, .int qn, .ref sw, .ref m0])), (sa, .inl (cI, 40, .inl f_6)), (sc, .inl (cI, 40, .inl z))]) (fun _ => rfl) dX4_put_16 (fun f_16 H locs e_16 hP hD hS => ?_)
  have hP : va_P D vwCl [(s0, .inr (4, [.ref sh, .ref sa, .ref sc, .ref sv, .ref sr, .ref sl, .ref sk, .int cg, .int mt, .int qn, .ref sw, .ref m0])), (sa, .inl (cI, 40, .inl f_6)), (sc, .inl (cI, 40, .inl f_16))] H := hP
  have hD : va_D A [(s0, .inr (4, [.ref sh, .ref sa, .ref sc, .ref sv, .ref sr, .ref sl, .ref sk, .int cg, .int mt, .int qn, .ref sw, .ref m0])), (sa, .inl (cI, 40, .inl f_6)), (sc, .inl (cI, 40, .inl f_16))] := hD
  refine lv_aload_n hx hb dX4_put_17 rfl (lv_at hl 0 rfl) ?_
  refine lv_dup hx hb dX4_put_18 rfl ?_
  refine va_get (D := D) (ci := 4) (v := .int cg) (C := RX4) (T := TX4) (N := 12) hx hb hts iX4 hown hK hP 0 rfl rfl 7 (by decide) (hts _ qw607) (fun _ h9 => h9) rfl dX4_put_19 ?_
  refine lz_iconst hx hb dX4_put_22 (fun x_22 v_22 => ?_)
  refine lv_iadd hx hb dX4_put_23 ?_
  refine lv_topi (fun x_23 e_23 => ?_)
  refine va_put (D := D) (ci := 4) (v := .int x_23) (ty := .int) (C := RX4) (T := TX4) (N := 12) hx hb hts iX4 tyX4 tyX4_ok nmX4 hown hK hP hD hS 0 rfl rfl 7 (by decide) (hts _ qw607) (fun _ h9 => h9) rfl (by decide +kernel) rfl rfl (Nat.le_of_ble_eq_true rfl) dX4_put_24 (fun H locs hP hD hS => ?_)
  have hP : va_P D vwCl [(s0, .inr (4, [.ref sh, .ref sa, .ref sc, .ref sv, .ref sr, .ref sl, .ref sk, .int x_23, .int mt, .int qn, .ref sw, .ref m0])), (sa, .inl (cI, 40, .inl f_6)), (sc, .inl (cI, 40, .inl f_16))] H := hP
  have hD : va_D A [(s0, .inr (4, [.ref sh, .ref sa, .ref sc, .ref sv, .ref sr, .ref sl, .ref sk, .int x_23, .int mt, .int qn, .ref sw, .ref m0])), (sa, .inl (cI, 40, .inl f_6)), (sc, .inl (cI, 40, .inl f_16))] := hD
  have hP9 := va_P_subm (ws' := [(s0, .inr (4, [.ref sh, .ref sa, .ref sc, .ref sv, .ref sr, .ref sl, .ref sk, .int x_23, .int mt, .int qn, .ref sw, .ref m0])), (sa, .inl (cI, 40, .inl f_6)), (sc, .inl (cI, 40, .inl f_16))]) hP [0, 1, 2] rfl
  have hD9 := hD.sub (ws' := [(s0, .inr (4, [.ref sh, .ref sa, .ref sc, .ref sv, .ref sr, .ref sl, .ref sk, .int x_23, .int mt, .int qn, .ref sw, .ref m0])), (sa, .inl (cI, 40, .inl f_6)), (sc, .inl (cI, 40, .inl f_16))]) [0, 1, 2] rfl rfl
  exact W.vret hx hb hr (fun t ht hW => ⟨⟨⟨x_23, f_6, f_16⟩, rfl, ⟨e_6, e_16, by rw [e_23, v_22]; rfl⟩, ⟨by rw [ht]; exact hP9, hD9⟩⟩, hS.F ht⟩) hS.2.2 dX4_put_27
set_option maxHeartbeats 4000000 in
set_option maxRecDepth 100000 in
theorem k_X4_move (l : Launch) (D : va_G) (cI cZ cJ : ClassId) (hz9 : Nat) (s0 : Nat) (t0 : Int32) (h0 : Int32) (sh : Nat) (sa : Nat) (sc : Nat) (sv : Nat) (sr : Nat) (sl : Nat) (sk : Nat) (cg : Int32) (mt : Int32) (qn : Int32) (sw : Nat) (m0 : Nat) (fa : Nat → Int32) (fc : Nat → Int32) (fv : Nat → Int32) (rw : Nat → Int32) (g : Nat) (B : List Nat) (htv : t0 = iI ↑B.length) (hrw : rwIs rw B) (hB4 : ∀ x ∈ B, x < 40) (hbl : B.length ≤ 40) (hcg : cg = iI ↑g) : Met l yX4_move (ws_ yX4_move cX4_move 4 (Option.some .int)) ({ frames := 1, cells := 0, slots := 0, locals := 22 }) (va_Pc [.ref s0, .int t0, .int h0] (wPre D cI cZ cJ hz9 [(s0, .inr (4, [.ref sh, .ref sa, .ref sc, .ref sv, .ref sr, .ref sl, .ref sk, .int cg, .int mt, .int qn, .ref sw, .ref m0])), (sa, .inl (cI, 40, .inl fa)), (sc, .inl (cI, 40, .inl fc)), (sv, .inl (cI, 40, .inl fv)), (sw, .inl (cI, 40, .inl rw))])) (va_Qi (fun r (u : Int32 × Int32 × (Nat → Int32) × (Nat → Int32) × (Nat → Int32)) => (r = iI (↑B.length)) ∧ (u.2.2.1 = homesA fa h0 B) ∧ (u.2.2.2.1 = camI fc g B B.length) ∧ (u.1 = iI (↑(g + B.length))) ∧ (u.2.2.2.2 = mvA 1 fv B) ∧ (u.2.1 = mt + iI (↑B.length))) (fun (u : Int32 × Int32 × (Nat → Int32) × (Nat → Int32) × (Nat → Int32)) t => wPost D (va_A [(s0, .inr (4, [.ref sh, .ref sa, .ref sc, .ref sv, .ref sr, .ref sl, .ref sk, .int cg, .int mt, .int qn, .ref sw, .ref m0])), (sa, .inl (cI, 40, .inl fa)), (sc, .inl (cI, 40, .inl fc)), (sv, .inl (cI, 40, .inl fv)), (sw, .inl (cI, 40, .inl rw))] hz9) [(s0, .inr (4, [.ref sh, .ref sa, .ref sc, .ref sv, .ref sr, .ref sl, .ref sk, .int u.1, .int u.2.1, .int qn, .ref sw, .ref m0])), (sa, .inl (cI, 40, .inl u.2.2.1)), (sc, .inl (cI, 40, .inl u.2.2.2.1)), (sv, .inl (cI, 40, .inl u.2.2.2.2)), (sw, .inl (cI, 40, .inl rw))] t) (va_A [(s0, .inr (4, [.ref sh, .ref sa, .ref sc, .ref sv, .ref sr, .ref sl, .ref sk, .int cg, .int mt, .int qn, .ref sw, .ref m0])), (sa, .inl (cI, 40, .inl fa)), (sc, .inl (cI, 40, .inl fc)), (sv, .inl (cI, 40, .inl fv)), (sw, .inl (cI, 40, .inl rw))] hz9)) 0 0 (va_A [(s0, .inr (4, [.ref sh, .ref sa, .ref sc, .ref sv, .ref sr, .ref sl, .ref sk, .int cg, .int mt, .int qn, .ref sw, .ref m0])), (sa, .inl (cI, 40, .inl fa)), (sc, .inl (cI, 40, .inl fc)), (sv, .inl (cI, 40, .inl fv)), (sw, .inl (cI, 40, .inl rw))] hz9) := by
  refine Met.ofW (cc := cX4_move) (maxL := 4) (ret := (Option.some .int)) (by decide) rfl ?_
  intro p e s m args below meth c s₁ hBd hml hv
  obtain ⟨rfl, hsz, hP, hD, hK, hT, hZ⟩ := hv
  have hx := hBd.exec
  have hb := hBd.bytes
  have hr := hBd.returns
  have hts : ∀ w ∈ lw_G, w.before _ s = true := fun w h => atoms_spec (ws := ws_ yX4_move cX4_move 4 (Option.some .int)) hBd.pre w (List.mem_cons_of_mem _ h)
  have hown : s.vm.findClass RX4 = some m.cls := findClass_of_methodNamed hBd.named
  have hlocks := hBd.notSynchronized
  subst hsz
  have hD := hD.self (sz := s.heap.size)
  have hZA := hZ.own hP
  generalize hAe : va_A [(s0, .inr (4, [.ref sh, .ref sa, .ref sc, .ref sv, .ref sr, .ref sl, .ref sk, .int cg, .int mt, .int qn, .ref sw, .ref m0])), (sa, .inl (cI, 40, .inl fa)), (sc, .inl (cI, 40, .inl fc)), (sv, .inl (cI, 40, .inl fv)), (sw, .inl (cI, 40, .inl rw))] s.heap.size = A at hD hZA ⊢
  have hA : ∀ q : Nat, s.heap.size ≤ q → A q := fun q h => by rw [← hAe]; exact Or.inr h
  have hZ := hZA
  have hS : va_S A s.heap s.heap [] := va_S.rf
  have hl := lv_entry ([.ref s0, .int t0, .int h0]) (n := 4) (Nat.le_of_ble_eq_true rfl)
  rw [lg_entry_eq]
  generalize (lg_sl ([.ref s0, .int t0, .int h0]) ++ List.replicate (4 - (lg_sl ([.ref s0, .int t0, .int h0])).length) Slot.unset).toArray = ls at hl ⊢
  have hl : lv_has ls 4 [(0, .ref s0), (1, .int t0), (2, .int h0)] := hl
  have hP : va_P D vwCl [(s0, .inr (4, [.ref sh, .ref sa, .ref sc, .ref sv, .ref sr, .ref sl, .ref sk, .int cg, .int mt, .int qn, .ref sw, .ref m0])), (sa, .inl (cI, 40, .inl fa)), (sc, .inl (cI, 40, .inl fc)), (sv, .inl (cI, 40, .inl fv)), (sw, .inl (cI, 40, .inl rw))] s.heap := hP
  refine lz_iconst hx hb dX4_move_0 (fun x_0 v_0 => ?_)
  refine lv_istore_n (lv' := [(3, .int x_0), (0, .ref s0), (1, .int t0), (2, .int h0)]) hx hb dX4_move_1 rfl hl (by decide) rfl (fun ls hl => ?_)
  have key2 : ∀ (fu : Nat) (i : Nat) (ii : Int32) (cgi : Int32) (fai : Nat → Int32) (fci : Nat → Int32) (fvi : Nat → Int32) (H : Heap) (locs : List Loc) (ls : Array Slot), B.length + 1 - i < fu → (ii = iI (↑i)) → (i ≤ B.length) → (fai = homesA fa h0 (B.take i)) → (fci = camI fc g B i) → (cgi = iI (↑(g + i))) → (fvi = mvA 1 fv (B.take i)) → va_P D vwCl [(s0, .inr (4, [.ref sh, .ref sa, .ref sc, .ref sv, .ref sr, .ref sl, .ref sk, .int cgi, .int mt, .int qn, .ref sw, .ref m0])), (sa, .inl (cI, 40, .inl fai)), (sc, .inl (cI, 40, .inl fci)), (sv, .inl (cI, 40, .inl fvi)), (sw, .inl (cI, 40, .inl rw))] H → va_D A [(s0, .inr (4, [.ref sh, .ref sa, .ref sc, .ref sv, .ref sr, .ref sl, .ref sk, .int cgi, .int mt, .int qn, .ref sw, .ref m0])), (sa, .inl (cI, 40, .inl fai)), (sc, .inl (cI, 40, .inl fci)), (sv, .inl (cI, 40, .inl fvi)), (sw, .inl (cI, 40, .inl rw))] → va_S A s.heap H locs → lv_has ls 4 [(3, .int ii), (0, .ref s0), (1, .int t0), (2, .int h0)] → W p l e (headSpec (ws_ yX4_move cX4_move 4 (Option.some .int)) ({ frames := 1, cells := 0, slots := 0, locals := 22 })).room s m ([.ref s0, .int t0, .int h0] : List Value).toArray below meth c H locs 0 0 (MQ below (va_Qi (fun r (u : Int32 × Int32 × (Nat → Int32) × (Nat → Int32) × (Nat → Int32)) => (r = iI (↑B.length)) ∧ (u.2.2.1 = homesA fa h0 B) ∧ (u.2.2.2.1 = camI fc g B B.length) ∧ (u.1 = iI (↑(g + B.length))) ∧ (u.2.2.2.2 = mvA 1 fv B) ∧ (u.2.1 = mt + iI (↑B.length))) (fun (u : Int32 × Int32 × (Nat → Int32) × (Nat → Int32) × (Nat → Int32)) t => wPost D A [(s0, .inr (4, [.ref sh, .ref sa, .ref sc, .ref sv, .ref sr, .ref sl, .ref sk, .int u.1, .int u.2.1, .int qn, .ref sw, .ref m0])), (sa, .inl (cI, 40, .inl u.2.2.1)), (sc, .inl (cI, 40, .inl u.2.2.2.1)), (sv, .inl (cI, 40, .inl u.2.2.2.2)), (sw, .inl (cI, 40, .inl rw))] t) A) ([.ref s0, .int t0, .int h0] : List Value).toArray s 0 0 A) (F0 m 2 ls []) := by
    intro fu
    induction fu with
    | zero => intros; omega
    | succ fu ih2 =>
      intro i ii cgi fai fci fvi H locs ls hfu hi hle hai hci hgi hvi hP hD hS hl
      refine lv_iload_n hx hb dX4_move_2 rfl (lv_at hl 0 rfl) ?_
      refine lv_iload_n hx hb dX4_move_3 rfl (lv_at hl 2 rfl) ?_
      refine lz_icmp_ge (tgt := 39) hx hb hi htv ⟨by omega, by omega⟩ dX4_move_4 (by decide) (fun c_4 => ?_) (fun c_4 => ?_)
      · obtain rfl : i = B.length := by omega
        rw [take_all (Nat.le_refl _)] at hai hvi
        refine lv_aload_n hx hb dX4_move_39 rfl (lv_at hl 1 rfl) ?_
        refine lv_dup hx hb dX4_move_40 rfl ?_
        refine va_get (D := D) (ci := 4) (v := .int mt) (C := RX4) (T := TX4) (N := 12) hx hb hts iX4 hown hK hP 0 rfl rfl 8 (by decide) (hts _ qw608) (fun _ h9 => h9) rfl dX4_move_41 ?_
        refine lv_iload_n hx hb dX4_move_44 rfl (lv_at hl 2 rfl) ?_
        refine lv_iadd hx hb dX4_move_45 ?_
        refine lv_topi (fun x_45 e_45 => ?_)
        refine va_put (D := D) (ci := 4) (v := .int x_45) (ty := .int) (C := RX4) (T := TX4) (N := 12) hx hb hts iX4 tyX4 tyX4_ok nmX4 hown hK hP hD hS 0 rfl rfl 8 (by decide) (hts _ qw608) (fun _ h9 => h9) rfl (by decide +kernel) rfl rfl (Nat.le_of_ble_eq_true rfl) dX4_move_46 (fun H locs hP hD hS => ?_)
        have hP : va_P D vwCl [(s0, .inr (4, [.ref sh, .ref sa, .ref sc, .ref sv, .ref sr, .ref sl, .ref sk, .int cgi, .int x_45, .int qn, .ref sw, .ref m0])), (sa, .inl (cI, 40, .inl fai)), (sc, .inl (cI, 40, .inl fci)), (sv, .inl (cI, 40, .inl fvi)), (sw, .inl (cI, 40, .inl rw))] H := hP
        have hD : va_D A [(s0, .inr (4, [.ref sh, .ref sa, .ref sc, .ref sv, .ref sr, .ref sl, .ref sk, .int cgi, .int x_45, .int qn, .ref sw, .ref m0])), (sa, .inl (cI, 40, .inl fai)), (sc, .inl (cI, 40, .inl fci)), (sv, .inl (cI, 40, .inl fvi)), (sw, .inl (cI, 40, .inl rw))] := hD
        refine lv_iload_n hx hb dX4_move_49 rfl (lv_at hl 2 rfl) ?_
        have hP9 := va_P_subm (ws' := [(s0, .inr (4, [.ref sh, .ref sa, .ref sc, .ref sv, .ref sr, .ref sl, .ref sk, .int cgi, .int x_45, .int qn, .ref sw, .ref m0])), (sa, .inl (cI, 40, .inl fai)), (sc, .inl (cI, 40, .inl fci)), (sv, .inl (cI, 40, .inl fvi)), (sw, .inl (cI, 40, .inl rw))]) hP [0, 1, 2, 3, 4] rfl
        have hD9 := hD.sub (ws' := [(s0, .inr (4, [.ref sh, .ref sa, .ref sc, .ref sv, .ref sr, .ref sl, .ref sk, .int cgi, .int x_45, .int qn, .ref sw, .ref m0])), (sa, .inl (cI, 40, .inl fai)), (sc, .inl (cI, 40, .inl fci)), (sv, .inl (cI, 40, .inl fvi)), (sw, .inl (cI, 40, .inl rw))]) [0, 1, 2, 3, 4] rfl rfl
        exact W.iret (v := t0) hx hb hr (fun t ht hW => ⟨⟨t0, ⟨cgi, x_45, fai, fci, fvi⟩, rfl, ⟨htv, hai, hci, hgi, hvi, by rw [e_45, htv]⟩, ⟨by rw [ht]; exact hP9, hD9⟩⟩, hS.F ht⟩) hS.2.2 dX4_move_50
      · have hbx := hB4 _ (getD_in (show i < B.length by omega))
        refine lv_aload_n hx hb dX4_move_7 rfl (lv_at hl 1 rfl) ?_
        refine lv_aload_n hx hb dX4_move_8 rfl (lv_at hl 1 rfl) ?_
        refine va_get (D := D) (ci := 4) (v := .ref sw) (C := RX4) (T := TX4) (N := 12) hx hb hts iX4 hown hK hP 0 rfl rfl 10 (by decide) (hts _ qw612) (fun _ h9 => h9) rfl dX4_move_9 ?_
        refine lv_iload_n hx hb dX4_move_12 rfl (lv_at hl 0 rfl) ?_
        refine lz_iald hx hb hK hP 4 0 rfl rfl hi (i) (by omega) (by omega) (by decide) dX4_move_13 (fun x_13 e_13 => ?_)
        have v_13 : x_13 = iI (↑(B.getD i 0)) := e_13.trans (hrw _ (by omega))
        refine lv_iload_n hx hb dX4_move_14 rfl (lv_at hl 3 rfl) ?_
        refine cm_v (wr := [(sv, .inl (cI, 40, .inl fvi)), (sw, .inl (cI, 40, .inl rw))]) (va_runV (As := [.int x_13, .int h0]) (rest := []) ⟨hx, hb, hml, hown, hts⟩ (k_X4_put l D cI cZ cJ _ s0 x_13 h0 sh sa sc sv sr sl sk cgi mt qn sw m0 fai fci (B.getD i 0) (v_13.trans (congrArg iI (by omega))) (hbx)) (cwV 2 hts (gV qw734 qw673 qw674 qw24 qw675) rfl rfl rfl (by decide +kernel) ⟨Nat.le_of_ble_eq_true rfl, Nat.le_of_ble_eq_true rfl⟩) (pv (ci := 4) (r := (RX4, TX4, 12)) (q0 := 0) hP hD hK hT hZ hS [0, 1, 2] rfl rfl rfl rfl) rfl rfl hl.1 rfl (lv_room (Nat.le_of_ble_eq_true rfl)) dX4_move_15 ⟨Nat.le_of_ble_eq_true rfl, Nat.le_of_ble_eq_true rfl⟩) hS hP hD hA [0, 1, 2] [3, 4] rfl rfl rfl (by decide) (fun u_15 H locs hw_15 hP hD hS => ?_)
        obtain ⟨cg2_15, fa2_15, fc2_15⟩ := u_15
        have hP : va_P D vwCl [(sv, .inl (cI, 40, .inl fvi)), (sw, .inl (cI, 40, .inl rw)), (s0, .inr (4, [.ref sh, .ref sa, .ref sc, .ref sv, .ref sr, .ref sl, .ref sk, .int cg2_15, .int mt, .int qn, .ref sw, .ref m0])), (sa, .inl (cI, 40, .inl fa2_15)), (sc, .inl (cI, 40, .inl fc2_15))] H := hP
        have hD : va_D A [(sv, .inl (cI, 40, .inl fvi)), (sw, .inl (cI, 40, .inl rw)), (s0, .inr (4, [.ref sh, .ref sa, .ref sc, .ref sv, .ref sr, .ref sl, .ref sk, .int cg2_15, .int mt, .int qn, .ref sw, .ref m0])), (sa, .inl (cI, 40, .inl fa2_15)), (sc, .inl (cI, 40, .inl fc2_15))] := hD
        have hw_15 : (fa2_15 = upd fai (B.getD i 0) h0) ∧ (fc2_15 = upd fci (B.getD i 0) cgi) ∧ (cg2_15 = cgi + 1) := hw_15
        obtain ⟨a_15, b_15, c_15⟩ := hw_15
        refine lv_aload_n hx hb dX4_move_18 rfl (lv_at hl 1 rfl) ?_
        refine va_get (D := D) (ci := 4) (v := .ref sv) (C := RX4) (T := TX4) (N := 12) hx hb hts iX4 hown hK hP 2 rfl rfl 3 (by decide) (hts _ qw599) (fun _ h9 => h9) rfl dX4_move_19 ?_
        refine lv_aload_n hx hb dX4_move_22 rfl (lv_at hl 1 rfl) ?_
        refine va_get (D := D) (ci := 4) (v := .ref sw) (C := RX4) (T := TX4) (N := 12) hx hb hts iX4 hown hK hP 2 rfl rfl 10 (by decide) (hts _ qw612) (fun _ h9 => h9) rfl dX4_move_23 ?_
        refine lv_iload_n hx hb dX4_move_26 rfl (lv_at hl 0 rfl) ?_
        refine lz_iald hx hb hK hP 1 0 rfl rfl hi (i) (by omega) (by omega) (by decide) dX4_move_27 (fun x_27 e_27 => ?_)
        have v_27 : x_27 = iI (↑(B.getD i 0)) := e_27.trans (hrw _ (by omega))
        refine lv_dup2_11 hx hb dX4_move_28 rfl rfl ?_
        refine lz_iald hx hb hK hP 0 0 rfl rfl v_27 ((B.getD i 0)) (by omega) (by omega) (by decide) dX4_move_29 (fun x_29 e_29 => ?_)
        refine lz_iconst hx hb dX4_move_30 (fun x_30 v_30 => ?_)
        refine lv_iadd hx hb dX4_move_31 ?_
        refine lv_topi (fun x_31 e_31 => ?_)
        refine lz_iast hx hb hK hP hD hS 0 0 rfl rfl v_27 ((B.getD i 0)) (by omega) (by omega) (by decide) (ws2 := fun z => [(sv, .inl (cI, 40, .inl z)), (sw, .inl (cI, 40, .inl rw)), (s0, .inr (4, [.ref sh, .ref sa, .ref sc, .ref sv, .ref sr, .ref sl, .ref sk, .int cg2_15, .int mt, .int qn, .ref sw, .ref m0])), (sa, .inl (cI, 40, .inl fa2_15)), (sc, .inl (cI, 40, .inl fc2_15))]) (fun _ => rfl) dX4_move_32 (fun f_32 H locs e_32 hP hD hS => ?_)
        have hP : va_P D vwCl [(sv, .inl (cI, 40, .inl f_32)), (sw, .inl (cI, 40, .inl rw)), (s0, .inr (4, [.ref sh, .ref sa, .ref sc, .ref sv, .ref sr, .ref sl, .ref sk, .int cg2_15, .int mt, .int qn, .ref sw, .ref m0])), (sa, .inl (cI, 40, .inl fa2_15)), (sc, .inl (cI, 40, .inl fc2_15))] H := hP
        have hD : va_D A [(sv, .inl (cI, 40, .inl f_32)), (sw, .inl (cI, 40, .inl rw)), (s0, .inr (4, [.ref sh, .ref sa, .ref sc, .ref sv, .ref sr, .ref sl, .ref sk, .int cg2_15, .int mt, .int qn, .ref sw, .ref m0])), (sa, .inl (cI, 40, .inl fa2_15)), (sc, .inl (cI, 40, .inl fc2_15))] := hD
        refine lz_iinc (lv2 := fun z => [(3, .int z), (0, .ref s0), (1, .int t0), (2, .int h0)]) hx hb dX4_move_33 hl (k := 0) rfl hi (by decide) (fun _ => rfl) (fun x_33 ls v_33 hl => ?_)
        refine lv_goto (tgt := 2) hx hb dX4_move_36 (by decide) ?_
        exact ih2 (i + 1) x_33 cg2_15 fa2_15 fc2_15 f_32 _ _ _ (by omega) (v_33.trans (congrArg iI (by omega))) (by omega) (by rw [homesA_take _ _ _ (show i < B.length by omega), ← hai]; exact a_15) (by rw [b_15, hci, hgi]; rfl) (by rw [c_15, hgi]; exact iI_n1 _) (mvA_step hvi (by decide) (by omega) (by rw [e_32, e_31, v_30, e_29]; rfl)) (va_P_subm hP [2, 3, 4, 0, 1] rfl) (hD.sub [2, 3, 4, 0, 1] rfl rfl) hS (lv_sub hl [0, 1, 2, 3] rfl)
  exact key2 _ 0 x_0 cg fa fc fv _ _ _ (Nat.lt_succ_self _) (v_0.trans (congrArg iI (by omega))) (by omega) (rfl) (rfl) (hcg) ((mvA_nil 1 fv).symm) hP hD hS (lv_sub hl [0, 1, 2, 3] rfl)
set_option maxHeartbeats 4000000 in
set_option maxRecDepth 100000 in
theorem k_X4_copy (l : Launch) (D : va_G) (cI cZ cJ : ClassId) (hz9 : Nat) (s0 : Nat) (c1 : Nat) (c2 : Nat) (sh : Nat) (sa : Nat) (sc : Nat) (sv : Nat) (sr : Nat) (sl : Nat) (sk : Nat) (cg : Int32) (mt : Int32) (qn : Int32) (sw : Nat) (m0 : Nat) (f : Nat → Int32) (g : Nat → Int32)   : Met l yX4_copy (ws_ yX4_copy cX4_copy 3 (Option.none : Option Jvm.ClassFile.FieldType)) ({ frames := 1, cells := 0, slots := 0, locals := 30 }) (va_Pc [.ref s0, .ref c1, .ref c2] (wPre D cI cZ cJ hz9 [(s0, .inr (4, [.ref sh, .ref sa, .ref sc, .ref sv, .ref sr, .ref sl, .ref sk, .int cg, .int mt, .int qn, .ref sw, .ref m0])), (c1, .inl (cI, 40, .inl f)), (c2, .inl (cI, 40, .inl g))])) (va_Qv (fun (u : (Nat → Int32)) => (∀ i, i < 40 → u i = f i)) (fun (u : (Nat → Int32)) t => wPost D (va_A [(s0, .inr (4, [.ref sh, .ref sa, .ref sc, .ref sv, .ref sr, .ref sl, .ref sk, .int cg, .int mt, .int qn, .ref sw, .ref m0])), (c1, .inl (cI, 40, .inl f)), (c2, .inl (cI, 40, .inl g))] hz9) [(s0, .inr (4, [.ref sh, .ref sa, .ref sc, .ref sv, .ref sr, .ref sl, .ref sk, .int cg, .int mt, .int qn, .ref sw, .ref m0])), (c1, .inl (cI, 40, .inl f)), (c2, .inl (cI, 40, .inl u))] t) (va_A [(s0, .inr (4, [.ref sh, .ref sa, .ref sc, .ref sv, .ref sr, .ref sl, .ref sk, .int cg, .int mt, .int qn, .ref sw, .ref m0])), (c1, .inl (cI, 40, .inl f)), (c2, .inl (cI, 40, .inl g))] hz9)) 0 0 (va_A [(s0, .inr (4, [.ref sh, .ref sa, .ref sc, .ref sv, .ref sr, .ref sl, .ref sk, .int cg, .int mt, .int qn, .ref sw, .ref m0])), (c1, .inl (cI, 40, .inl f)), (c2, .inl (cI, 40, .inl g))] hz9) := by
  refine Met.ofW (cc := cX4_copy) (maxL := 3) (ret := (Option.none : Option Jvm.ClassFile.FieldType)) (by decide) rfl ?_
  intro p e s m args below meth c s₁ hBd hml hv
  obtain ⟨rfl, hsz, hP, hD, hK, hT, hZ⟩ := hv
  have hx := hBd.exec
  have hb := hBd.bytes
  have hr := hBd.returns
  have hts : ∀ w ∈ lw_G, w.before _ s = true := fun w h => atoms_spec (ws := ws_ yX4_copy cX4_copy 3 (Option.none : Option Jvm.ClassFile.FieldType)) hBd.pre w (List.mem_cons_of_mem _ h)
  have hown : s.vm.findClass RX4 = some m.cls := findClass_of_methodNamed hBd.named
  have hlocks := hBd.notSynchronized
  subst hsz
  have hD := hD.self (sz := s.heap.size)
  have hZA := hZ.own hP
  generalize hAe : va_A [(s0, .inr (4, [.ref sh, .ref sa, .ref sc, .ref sv, .ref sr, .ref sl, .ref sk, .int cg, .int mt, .int qn, .ref sw, .ref m0])), (c1, .inl (cI, 40, .inl f)), (c2, .inl (cI, 40, .inl g))] s.heap.size = A at hD hZA ⊢
  have hA : ∀ q : Nat, s.heap.size ≤ q → A q := fun q h => by rw [← hAe]; exact Or.inr h
  have hZ := hZA
  have hS : va_S A s.heap s.heap [] := va_S.rf
  have hl := lv_entry ([.ref s0, .ref c1, .ref c2]) (n := 3) (Nat.le_of_ble_eq_true rfl)
  rw [lg_entry_eq]
  generalize (lg_sl ([.ref s0, .ref c1, .ref c2]) ++ List.replicate (3 - (lg_sl ([.ref s0, .ref c1, .ref c2])).length) Slot.unset).toArray = ls at hl ⊢
  have hl : lv_has ls 3 [(0, .ref s0), (1, .ref c1), (2, .ref c2)] := hl
  have hP : va_P D vwCl [(s0, .inr (4, [.ref sh, .ref sa, .ref sc, .ref sv, .ref sr, .ref sl, .ref sk, .int cg, .int mt, .int qn, .ref sw, .ref m0])), (c1, .inl (cI, 40, .inl f)), (c2, .inl (cI, 40, .inl g))] s.heap := hP
  refine lv_aload_n hx hb dX4_copy_0 rfl (lv_at hl 1 rfl) ?_
  refine lz_iconst hx hb dX4_copy_1 (fun x_1 v_1 => ?_)
  refine lv_aload_n hx hb dX4_copy_2 rfl (lv_at hl 2 rfl) ?_
  refine lz_iconst hx hb dX4_copy_3 (fun x_3 v_3 => ?_)
  refine lv_aload_n hx hb dX4_copy_4 rfl (lv_at hl 1 rfl) ?_
  refine va_alen (v := iI 40) hx hb hK hP 1 0 rfl rfl (nI_i 40) dX4_copy_5 ?_
  refine lv_topi (fun x_5 v_5 => ?_)
  refine lz_copy hx hb (by rw [hml]; exact hl.1.symm) hown (hts _ qw816) (hts _ qw386) (hts _ qw385) (hts _ qw31) hK hP hD hS 1 2 0 0 rfl rfl rfl rfl v_1 v_3 v_5 (0) (0) (40) (by omega) (by omega) (by omega) (by omega) (by omega) ⟨by decide, by decide⟩ (Nat.le_of_ble_eq_true rfl) (Nat.le_of_ble_eq_true rfl) (ws2 := fun z => [(s0, .inr (4, [.ref sh, .ref sa, .ref sc, .ref sv, .ref sr, .ref sl, .ref sk, .int cg, .int mt, .int qn, .ref sw, .ref m0])), (c1, .inl (cI, 40, .inl f)), (c2, .inl (cI, 40, .inl z))]) (fun _ => rfl) dX4_copy_6 (fun f_6 H locs e_6 hP hD hS => ?_)
  have hP : va_P D vwCl [(s0, .inr (4, [.ref sh, .ref sa, .ref sc, .ref sv, .ref sr, .ref sl, .ref sk, .int cg, .int mt, .int qn, .ref sw, .ref m0])), (c1, .inl (cI, 40, .inl f)), (c2, .inl (cI, 40, .inl f_6))] H := hP
  have hD : va_D A [(s0, .inr (4, [.ref sh, .ref sa, .ref sc, .ref sv, .ref sr, .ref sl, .ref sk, .int cg, .int mt, .int qn, .ref sw, .ref m0])), (c1, .inl (cI, 40, .inl f)), (c2, .inl (cI, 40, .inl f_6))] := hD
  have hP9 := va_P_subm (ws' := [(s0, .inr (4, [.ref sh, .ref sa, .ref sc, .ref sv, .ref sr, .ref sl, .ref sk, .int cg, .int mt, .int qn, .ref sw, .ref m0])), (c1, .inl (cI, 40, .inl f)), (c2, .inl (cI, 40, .inl f_6))]) hP [0, 1, 2] rfl
  have hD9 := hD.sub (ws' := [(s0, .inr (4, [.ref sh, .ref sa, .ref sc, .ref sv, .ref sr, .ref sl, .ref sk, .int cg, .int mt, .int qn, .ref sw, .ref m0])), (c1, .inl (cI, 40, .inl f)), (c2, .inl (cI, 40, .inl f_6))]) [0, 1, 2] rfl rfl
  exact W.vret hx hb hr (fun t ht hW => ⟨⟨f_6, rfl, fun i hi => cpy_at e_6 hi, ⟨by rw [ht]; exact hP9, hD9⟩⟩, hS.F ht⟩) hS.2.2 dX4_copy_9
set_option maxHeartbeats 4000000 in
set_option maxRecDepth 100000 in
theorem k_X4_copy_2 (l : Launch) (D : va_G) (cI cZ cJ : ClassId) (hz9 : Nat) (s0 : Nat) (c1 : Nat) (c2 : Nat) (sh : Nat) (sa : Nat) (sc : Nat) (sv : Nat) (sr : Nat) (sl : Nat) (sk : Nat) (cg : Int32) (mt : Int32) (qn : Int32) (sw : Nat) (m0 : Nat) (f : Nat → Int32) (g : Nat → Int32)   : Met l yX4_copy (ws_ yX4_copy cX4_copy 3 (Option.none : Option Jvm.ClassFile.FieldType)) ({ frames := 1, cells := 0, slots := 0, locals := 30 }) (va_Pc [.ref s0, .ref c1, .ref c2] (wPre D cI cZ cJ hz9 [(s0, .inr (4, [.ref sh, .ref sa, .ref sc, .ref sv, .ref sr, .ref sl, .ref sk, .int cg, .int mt, .int qn, .ref sw, .ref m0])), (c1, .inl (cI, 2, .inl f)), (c2, .inl (cI, 2, .inl g))])) (va_Qv (fun (u : (Nat → Int32)) => (∀ i, i < 2 → u i = f i)) (fun (u : (Nat → Int32)) t => wPost D (va_A [(s0, .inr (4, [.ref sh, .ref sa, .ref sc, .ref sv, .ref sr, .ref sl, .ref sk, .int cg, .int mt, .int qn, .ref sw, .ref m0])), (c1, .inl (cI, 2, .inl f)), (c2, .inl (cI, 2, .inl g))] hz9) [(s0, .inr (4, [.ref sh, .ref sa, .ref sc, .ref sv, .ref sr, .ref sl, .ref sk, .int cg, .int mt, .int qn, .ref sw, .ref m0])), (c1, .inl (cI, 2, .inl f)), (c2, .inl (cI, 2, .inl u))] t) (va_A [(s0, .inr (4, [.ref sh, .ref sa, .ref sc, .ref sv, .ref sr, .ref sl, .ref sk, .int cg, .int mt, .int qn, .ref sw, .ref m0])), (c1, .inl (cI, 2, .inl f)), (c2, .inl (cI, 2, .inl g))] hz9)) 0 0 (va_A [(s0, .inr (4, [.ref sh, .ref sa, .ref sc, .ref sv, .ref sr, .ref sl, .ref sk, .int cg, .int mt, .int qn, .ref sw, .ref m0])), (c1, .inl (cI, 2, .inl f)), (c2, .inl (cI, 2, .inl g))] hz9) := by
  refine Met.ofW (cc := cX4_copy) (maxL := 3) (ret := (Option.none : Option Jvm.ClassFile.FieldType)) (by decide) rfl ?_
  intro p e s m args below meth c s₁ hBd hml hv
  obtain ⟨rfl, hsz, hP, hD, hK, hT, hZ⟩ := hv
  have hx := hBd.exec
  have hb := hBd.bytes
  have hr := hBd.returns
  have hts : ∀ w ∈ lw_G, w.before _ s = true := fun w h => atoms_spec (ws := ws_ yX4_copy cX4_copy 3 (Option.none : Option Jvm.ClassFile.FieldType)) hBd.pre w (List.mem_cons_of_mem _ h)
  have hown : s.vm.findClass RX4 = some m.cls := findClass_of_methodNamed hBd.named
  have hlocks := hBd.notSynchronized
  subst hsz
  have hD := hD.self (sz := s.heap.size)
  have hZA := hZ.own hP
  generalize hAe : va_A [(s0, .inr (4, [.ref sh, .ref sa, .ref sc, .ref sv, .ref sr, .ref sl, .ref sk, .int cg, .int mt, .int qn, .ref sw, .ref m0])), (c1, .inl (cI, 2, .inl f)), (c2, .inl (cI, 2, .inl g))] s.heap.size = A at hD hZA ⊢
  have hA : ∀ q : Nat, s.heap.size ≤ q → A q := fun q h => by rw [← hAe]; exact Or.inr h
  have hZ := hZA
  have hS : va_S A s.heap s.heap [] := va_S.rf
  have hl := lv_entry ([.ref s0, .ref c1, .ref c2]) (n := 3) (Nat.le_of_ble_eq_true rfl)
  rw [lg_entry_eq]
  generalize (lg_sl ([.ref s0, .ref c1, .ref c2]) ++ List.replicate (3 - (lg_sl ([.ref s0, .ref c1, .ref c2])).length) Slot.unset).toArray = ls at hl ⊢
  have hl : lv_has ls 3 [(0, .ref s0), (1, .ref c1), (2, .ref c2)] := hl
  have hP : va_P D vwCl [(s0, .inr (4, [.ref sh, .ref sa, .ref sc, .ref sv, .ref sr, .ref sl, .ref sk, .int cg, .int mt, .int qn, .ref sw, .ref m0])), (c1, .inl (cI, 2, .inl f)), (c2, .inl (cI, 2, .inl g))] s.heap := hP
  refine lv_aload_n hx hb dX4_copy_0 rfl (lv_at hl 1 rfl) ?_
  refine lz_iconst hx hb dX4_copy_1 (fun x_1 v_1 => ?_)
  refine lv_aload_n hx hb dX4_copy_2 rfl (lv_at hl 2 rfl) ?_
  refine lz_iconst hx hb dX4_copy_3 (fun x_3 v_3 => ?_)
  refine lv_aload_n hx hb dX4_copy_4 rfl (lv_at hl 1 rfl) ?_
  refine va_alen (v := iI 2) hx hb hK hP 1 0 rfl rfl (nI_i 2) dX4_copy_5 ?_
  refine lv_topi (fun x_5 v_5 => ?_)
  refine lz_copy hx hb (by rw [hml]; exact hl.1.symm) hown (hts _ qw816) (hts _ qw386) (hts _ qw385) (hts _ qw31) hK hP hD hS 1 2 0 0 rfl rfl rfl rfl v_1 v_3 v_5 (0) (0) (2) (by omega) (by omega) (by omega) (by omega) (by omega) ⟨by decide, by decide⟩ (Nat.le_of_ble_eq_true rfl) (Nat.le_of_ble_eq_true rfl) (ws2 := fun z => [(s0, .inr (4, [.ref sh, .ref sa, .ref sc, .ref sv, .ref sr, .ref sl, .ref sk, .int cg, .int mt, .int qn, .ref sw, .ref m0])), (c1, .inl (cI, 2, .inl f)), (c2, .inl (cI, 2, .inl z))]) (fun _ => rfl) dX4_copy_6 (fun f_6 H locs e_6 hP hD hS => ?_)
  have hP : va_P D vwCl [(s0, .inr (4, [.ref sh, .ref sa, .ref sc, .ref sv, .ref sr, .ref sl, .ref sk, .int cg, .int mt, .int qn, .ref sw, .ref m0])), (c1, .inl (cI, 2, .inl f)), (c2, .inl (cI, 2, .inl f_6))] H := hP
  have hD : va_D A [(s0, .inr (4, [.ref sh, .ref sa, .ref sc, .ref sv, .ref sr, .ref sl, .ref sk, .int cg, .int mt, .int qn, .ref sw, .ref m0])), (c1, .inl (cI, 2, .inl f)), (c2, .inl (cI, 2, .inl f_6))] := hD
  have hP9 := va_P_subm (ws' := [(s0, .inr (4, [.ref sh, .ref sa, .ref sc, .ref sv, .ref sr, .ref sl, .ref sk, .int cg, .int mt, .int qn, .ref sw, .ref m0])), (c1, .inl (cI, 2, .inl f)), (c2, .inl (cI, 2, .inl f_6))]) hP [0, 1, 2] rfl
  have hD9 := hD.sub (ws' := [(s0, .inr (4, [.ref sh, .ref sa, .ref sc, .ref sv, .ref sr, .ref sl, .ref sk, .int cg, .int mt, .int qn, .ref sw, .ref m0])), (c1, .inl (cI, 2, .inl f)), (c2, .inl (cI, 2, .inl f_6))]) [0, 1, 2] rfl rfl
  exact W.vret hx hb hr (fun t ht hW => ⟨⟨f_6, rfl, fun i hi => cpy_at e_6 hi, ⟨by rw [ht]; exact hP9, hD9⟩⟩, hS.F ht⟩) hS.2.2 dX4_copy_9
set_option maxHeartbeats 4000000 in
set_option maxRecDepth 100000 in
theorem k_X4_quench (l : Launch) (D : va_G) (cI cZ cJ : ClassId) (hz9 : Nat) (s0 : Nat) (x0 : Int32) (sh : Nat) (sa : Nat) (sc : Nat) (sv : Nat) (sr : Nat) (sl : Nat) (sk : Nat) (cg : Int32) (mt : Int32) (qn : Int32) (sw : Nat) (m0 : Nat) (th : Int32) (el : Int32) (m1 : Nat) (m2 : Nat) (gl : Nat → Int32) (fh : Nat → Int32) (fa : Nat → Int32) (n x : Nat) (Hh : Nat → Nat) (av : Nat → Int) (lo : Nat → Nat) (hem : embIs el fh n Hh) (hat : atIs fa n av) (hlw : lowIs gl lo) (hxv : x0 = iI ↑x) (hxn : x < n) : Met l yX4_quench (ws_ yX4_quench cX4_quench 3 (Option.some .int)) ({ frames := 3, cells := 0, slots := 0, locals := 64 }) (va_Pc [.ref s0, .int x0] (wPre D cI cZ cJ hz9 [(s0, .inr (4, [.ref sh, .ref sa, .ref sc, .ref sv, .ref sr, .ref sl, .ref sk, .int cg, .int mt, .int qn, .ref sw, .ref m0])), (m0, .inr (5, [.int th, .int el, .ref m1, .ref m2])), (sl, .inl (cI, 2, .inl gl)), (sh, .inl (cI, 40, .inl fh)), (sa, .inl (cI, 40, .inl fa))])) (va_Qi (fun r (u : Int32 × (Nat → Int32)) => (r = iI (bkB lo (av x) (Hh x))) ∧ (u.2 = upd fa x (iI (-1))) ∧ (u.1 = qn + 1)) (fun (u : Int32 × (Nat → Int32)) t => wPost D (va_A [(s0, .inr (4, [.ref sh, .ref sa, .ref sc, .ref sv, .ref sr, .ref sl, .ref sk, .int cg, .int mt, .int qn, .ref sw, .ref m0])), (m0, .inr (5, [.int th, .int el, .ref m1, .ref m2])), (sl, .inl (cI, 2, .inl gl)), (sh, .inl (cI, 40, .inl fh)), (sa, .inl (cI, 40, .inl fa))] hz9) [(s0, .inr (4, [.ref sh, .ref sa, .ref sc, .ref sv, .ref sr, .ref sl, .ref sk, .int cg, .int mt, .int u.1, .ref sw, .ref m0])), (m0, .inr (5, [.int th, .int el, .ref m1, .ref m2])), (sl, .inl (cI, 2, .inl gl)), (sh, .inl (cI, 40, .inl fh)), (sa, .inl (cI, 40, .inl u.2))] t) (va_A [(s0, .inr (4, [.ref sh, .ref sa, .ref sc, .ref sv, .ref sr, .ref sl, .ref sk, .int cg, .int mt, .int qn, .ref sw, .ref m0])), (m0, .inr (5, [.int th, .int el, .ref m1, .ref m2])), (sl, .inl (cI, 2, .inl gl)), (sh, .inl (cI, 40, .inl fh)), (sa, .inl (cI, 40, .inl fa))] hz9)) 0 0 (va_A [(s0, .inr (4, [.ref sh, .ref sa, .ref sc, .ref sv, .ref sr, .ref sl, .ref sk, .int cg, .int mt, .int qn, .ref sw, .ref m0])), (m0, .inr (5, [.int th, .int el, .ref m1, .ref m2])), (sl, .inl (cI, 2, .inl gl)), (sh, .inl (cI, 40, .inl fh)), (sa, .inl (cI, 40, .inl fa))] hz9) := by
  refine Met.ofW (cc := cX4_quench) (maxL := 3) (ret := (Option.some .int)) (by decide) rfl ?_
  intro p e s m args below meth c s₁ hBd hml hv
  obtain ⟨rfl, hsz, hP, hD, hK, hT, hZ⟩ := hv
  have hx := hBd.exec
  have hb := hBd.bytes
  have hr := hBd.returns
  have hts : ∀ w ∈ lw_G, w.before _ s = true := fun w h => atoms_spec (ws := ws_ yX4_quench cX4_quench 3 (Option.some .int)) hBd.pre w (List.mem_cons_of_mem _ h)
  have hown : s.vm.findClass RX4 = some m.cls := findClass_of_methodNamed hBd.named
  have hlocks := hBd.notSynchronized
  subst hsz
  have hD := hD.self (sz := s.heap.size)
  have hZA := hZ.own hP
  generalize hAe : va_A [(s0, .inr (4, [.ref sh, .ref sa, .ref sc, .ref sv, .ref sr, .ref sl, .ref sk, .int cg, .int mt, .int qn, .ref sw, .ref m0])), (m0, .inr (5, [.int th, .int el, .ref m1, .ref m2])), (sl, .inl (cI, 2, .inl gl)), (sh, .inl (cI, 40, .inl fh)), (sa, .inl (cI, 40, .inl fa))] s.heap.size = A at hD hZA ⊢
  have hA : ∀ q : Nat, s.heap.size ≤ q → A q := fun q h => by rw [← hAe]; exact Or.inr h
  have hZ := hZA
  have hS : va_S A s.heap s.heap [] := va_S.rf
  have hl := lv_entry ([.ref s0, .int x0]) (n := 3) (Nat.le_of_ble_eq_true rfl)
  rw [lg_entry_eq]
  generalize (lg_sl ([.ref s0, .int x0]) ++ List.replicate (3 - (lg_sl ([.ref s0, .int x0])).length) Slot.unset).toArray = ls at hl ⊢
  have hl : lv_has ls 3 [(0, .ref s0), (1, .int x0)] := hl
  have hP : va_P D vwCl [(s0, .inr (4, [.ref sh, .ref sa, .ref sc, .ref sv, .ref sr, .ref sl, .ref sk, .int cg, .int mt, .int qn, .ref sw, .ref m0])), (m0, .inr (5, [.int th, .int el, .ref m1, .ref m2])), (sl, .inl (cI, 2, .inl gl)), (sh, .inl (cI, 40, .inl fh)), (sa, .inl (cI, 40, .inl fa))] s.heap := hP
  obtain ⟨hn, hn4, hfh⟩ := id hem
  refine lv_aload_n hx hb dX4_quench_0 rfl (lv_at hl 0 rfl) ?_
  refine lv_iload_n hx hb dX4_quench_1 rfl (lv_at hl 1 rfl) ?_
  refine cr_i (va_runV (As := [.int x0]) (rest := []) ⟨hx, hb, hml, hown, hts⟩ (k_X4_bucket l D cI cZ cJ _ s0 x0 sh sa sc sv sr sl sk cg mt qn sw m0 th el m1 m2 gl fh fa n x Hh av lo (hem) (hat) (hlw) (hxv.trans (congrArg iI (by omega))) (hxn)) (cwV 1 hts (gV qw704 qw685 qw686 qw24 qw687) rfl rfl rfl (by decide +kernel) ⟨Nat.le_of_ble_eq_true rfl, Nat.le_of_ble_eq_true rfl⟩) (pv (ci := 4) (r := (RX4, TX4, 12)) (q0 := 0) hP hD hK hT hZ hS [0, 1, 2, 3, 4] rfl rfl rfl rfl) rfl rfl hl.1 rfl (lv_room (Nat.le_of_ble_eq_true rfl)) dX4_quench_2 ⟨Nat.le_of_ble_eq_true rfl, Nat.le_of_ble_eq_true rfl⟩) hS hP (fun x_2 H locs hw_2 hP hS => ?_)
  have hw_2 : (x_2 = iI (bkB lo (av x) (Hh x))) := hw_2
  have v_2 := hw_2
  refine lv_istore_n (lv' := [(2, .int x_2), (0, .ref s0), (1, .int x0)]) hx hb dX4_quench_5 rfl hl (by decide) rfl (fun ls hl => ?_)
  refine lv_aload_n hx hb dX4_quench_6 rfl (lv_at hl 1 rfl) ?_
  refine va_get (D := D) (ci := 4) (v := .ref sa) (C := RX4) (T := TX4) (N := 12) hx hb hts iX4 hown hK hP 0 rfl rfl 1 (by decide) (hts _ qw596) (fun _ h9 => h9) rfl dX4_quench_7 ?_
  refine lv_iload_n hx hb dX4_quench_10 rfl (lv_at hl 2 rfl) ?_
  refine lz_iconst hx hb dX4_quench_11 (fun x_11 v_11 => ?_)
  refine lz_iast hx hb hK hP hD hS 4 0 rfl rfl hxv (x) (by omega) (by omega) (by decide) (ws2 := fun z => [(s0, .inr (4, [.ref sh, .ref sa, .ref sc, .ref sv, .ref sr, .ref sl, .ref sk, .int cg, .int mt, .int qn, .ref sw, .ref m0])), (m0, .inr (5, [.int th, .int el, .ref m1, .ref m2])), (sl, .inl (cI, 2, .inl gl)), (sh, .inl (cI, 40, .inl fh)), (sa, .inl (cI, 40, .inl z))]) (fun _ => rfl) dX4_quench_12 (fun f_12 H locs e_12 hP hD hS => ?_)
  have hP : va_P D vwCl [(s0, .inr (4, [.ref sh, .ref sa, .ref sc, .ref sv, .ref sr, .ref sl, .ref sk, .int cg, .int mt, .int qn, .ref sw, .ref m0])), (m0, .inr (5, [.int th, .int el, .ref m1, .ref m2])), (sl, .inl (cI, 2, .inl gl)), (sh, .inl (cI, 40, .inl fh)), (sa, .inl (cI, 40, .inl f_12))] H := hP
  have hD : va_D A [(s0, .inr (4, [.ref sh, .ref sa, .ref sc, .ref sv, .ref sr, .ref sl, .ref sk, .int cg, .int mt, .int qn, .ref sw, .ref m0])), (m0, .inr (5, [.int th, .int el, .ref m1, .ref m2])), (sl, .inl (cI, 2, .inl gl)), (sh, .inl (cI, 40, .inl fh)), (sa, .inl (cI, 40, .inl f_12))] := hD
  refine lv_aload_n hx hb dX4_quench_13 rfl (lv_at hl 1 rfl) ?_
  refine lv_dup hx hb dX4_quench_14 rfl ?_
  refine va_get (D := D) (ci := 4) (v := .int qn) (C := RX4) (T := TX4) (N := 12) hx hb hts iX4 hown hK hP 0 rfl rfl 9 (by decide) (hts _ qw610) (fun _ h9 => h9) rfl dX4_quench_15 ?_
  refine lz_iconst hx hb dX4_quench_18 (fun x_18 v_18 => ?_)
  refine lv_iadd hx hb dX4_quench_19 ?_
  refine lv_topi (fun x_19 e_19 => ?_)
  refine va_put (D := D) (ci := 4) (v := .int x_19) (ty := .int) (C := RX4) (T := TX4) (N := 12) hx hb hts iX4 tyX4 tyX4_ok nmX4 hown hK hP hD hS 0 rfl rfl 9 (by decide) (hts _ qw610) (fun _ h9 => h9) rfl (by decide +kernel) rfl rfl (Nat.le_of_ble_eq_true rfl) dX4_quench_20 (fun H locs hP hD hS => ?_)
  have hP : va_P D vwCl [(s0, .inr (4, [.ref sh, .ref sa, .ref sc, .ref sv, .ref sr, .ref sl, .ref sk, .int cg, .int mt, .int x_19, .ref sw, .ref m0])), (m0, .inr (5, [.int th, .int el, .ref m1, .ref m2])), (sl, .inl (cI, 2, .inl gl)), (sh, .inl (cI, 40, .inl fh)), (sa, .inl (cI, 40, .inl f_12))] H := hP
  have hD : va_D A [(s0, .inr (4, [.ref sh, .ref sa, .ref sc, .ref sv, .ref sr, .ref sl, .ref sk, .int cg, .int mt, .int x_19, .ref sw, .ref m0])), (m0, .inr (5, [.int th, .int el, .ref m1, .ref m2])), (sl, .inl (cI, 2, .inl gl)), (sh, .inl (cI, 40, .inl fh)), (sa, .inl (cI, 40, .inl f_12))] := hD
  refine lv_iload_n hx hb dX4_quench_23 rfl (lv_at hl 0 rfl) ?_
  have hP9 := va_P_subm (ws' := [(s0, .inr (4, [.ref sh, .ref sa, .ref sc, .ref sv, .ref sr, .ref sl, .ref sk, .int cg, .int mt, .int x_19, .ref sw, .ref m0])), (m0, .inr (5, [.int th, .int el, .ref m1, .ref m2])), (sl, .inl (cI, 2, .inl gl)), (sh, .inl (cI, 40, .inl fh)), (sa, .inl (cI, 40, .inl f_12))]) hP [0, 1, 2, 3, 4] rfl
  have hD9 := hD.sub (ws' := [(s0, .inr (4, [.ref sh, .ref sa, .ref sc, .ref sv, .ref sr, .ref sl, .ref sk, .int cg, .int mt, .int x_19, .ref sw, .ref m0])), (m0, .inr (5, [.int th, .int el, .ref m1, .ref m2])), (sl, .inl (cI, 2, .inl gl)), (sh, .inl (cI, 40, .inl fh)), (sa, .inl (cI, 40, .inl f_12))]) [0, 1, 2, 3, 4] rfl rfl
  exact W.iret (v := x_2) hx hb hr (fun t ht hW => ⟨⟨x_2, ⟨x_19, f_12⟩, rfl, ⟨v_2, by rw [e_12, v_11], by rw [e_19, v_18]; rfl⟩, ⟨by rw [ht]; exact hP9, hD9⟩⟩, hS.F ht⟩) hS.2.2 dX4_quench_24
