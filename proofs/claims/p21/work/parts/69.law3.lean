set_option maxHeartbeats 4000000 in
set_option maxRecDepth 100000 in
theorem t_s3 {p : Program} {e : Env} {s : State} {m : MethodId} {args : Array Value} {below : List Frame} {meth : Method} {c : Code} {Q : State → Prop} {A : Nat → Prop} (l : Launch) (hl0 : l.stackTraces = false) (D : va_G) (cI cZ cJ cK : ClassId) (ad : Nat → Nat) (Z : va_AS) (cx : CX) (SP : va_W) (bs : Nat) (t1 : Nat) (tt : Int32) (xx : Int32) (nn : Int32) (li : Int32) (rr : Int32) (mm : Int32) {H : Heap} {locs : List Loc} {ls : Array Slot} {cells slots : Nat}  (hx : p.tables.exec = Jvm.exec) (hb : c.code = cL_law) (hml : c.maxLocals = 22) (hown : s.vm.findClass RL = some m.cls) (hts : ∀ w ∈ lw_G, w.before args s = true) (hT : TW s) (hZ : ZW A s s.heap) (hK : va_K D vwCl (KT cI cZ cJ cK) s) (hA : ∀ q : Nat, s.heap.size ≤ q → A q) (hC : CStx Z cx) (hI : AI Z) (hPI : PI Z) (hnn : nn = iI ↑(aN Z)) (hli : li = iI ↑(lH Z 2)) (hrr : rr = iI (sumK (aK Z) (aN Z))) (hmm : mm = sumM (aM Z) (aN Z)) (hP : va_P D vwCl ((clsW cI cZ ad cx) ++ SP) H) (hD : va_D A ((clsW cI cZ ad cx) ++ SP)) (hS : va_S A s.heap H locs) (hl : lv_has ls 22 [(0, .ref bs), (1, .ref (ad 0)), (2, .ref t1), (3, .int tt), (4, .int xx), (7, .int nn), (9, .int li), (10, .int rr), (11, .int mm)]) (hcc : cells + 80 ≤ 600130) (hss : slots + 480 ≤ 7301080) (kk : ∀ (h : Nat) (hh0 : Int32) (sz : Int32) (be : Int64) (cx9 : CX) (H : Heap) (locs : List Loc) (ls : Array Slot), (h < 2) → (hh0 = iI ↑h) → (sz = iI ↑(aR Z h).length) → (be = diF (aN Z) (aL Z 0) (aL Z 1) (aH Z) (aR Z 0) (aR Z 1) (aV Z) (aK Z) (aM Z) (aT Z) (aG Z 0) (aG Z 1) (aG Z 0 + aG Z 1) (aQ Z)) → (CStx Z cx9) → va_P D vwCl ((clsW cI cZ ad cx9) ++ SP) H → va_D A ((clsW cI cZ ad cx9) ++ SP) → va_S A s.heap H locs → lv_has ls 22 [(0, .ref bs), (1, .ref (ad 0)), (2, .ref t1), (3, .int tt), (12, .int hh0), (13, .int sz), (14, .long be)] → W p l e room_1 s m args below meth c H locs (cells + 80) (slots + 480) Q (F0 m 764 ls [])) : W p l e room_1 s m args below meth c H locs cells slots Q (F0 m 570 ls []) := by
  have m40 := hI.1
  obtain ⟨p1, p2, p3, q, hq1, hq2⟩ := id hPI
  have hl2 : lH Z 2 = (aR Z 0).length + (aR Z 1).length := by
    show 0 + (aR Z 0).length + (aR Z 1).length = (aR Z 0).length + (aR Z 1).length
    omega
  have hkg := sumK_rg (aN Z) (fun i hi => hI.2.2.2.1 i (by omega))
  refine lv_aload_n hx hb dL_law_570 rfl (lv_at hl 1 rfl) ?_
  refine lz_iconst hx hb dL_law_571 (fun x_571 v_571 => ?_)
  refine cr_i (va_runV (As := [.int x_571]) (rest := []) ⟨hx, hb, hml, hown, hts⟩ (k_X3_count_P l D cI cZ cJ cK _ x_571 ad Z cx 1 hC hI (v_571.trans (congrArg iI (by omega))) (by omega)) (cwV 1 hts (gV qw397 qw398 qw399 qw10 qw400) rfl rfl rfl (by decide +kernel) ⟨Nat.le_of_ble_eq_true rfl, Nat.le_of_ble_eq_true rfl⟩) (pvP (ci := 3) (r := (RX3, TX3, 5)) (q0 := 0) (wr := SP) hP hD hK hT hZ hS List.perm_append_comm rfl rfl) rfl rfl hl.1 rfl (lv_room (Nat.le_of_ble_eq_true rfl)) dL_law_572 ⟨(by show cells ≤ 600130; omega), (by show slots ≤ 7301080; omega)⟩) hS hP (fun x_572 H locs hw_572 hP hS => ?_)
  replace hw_572 : (x_572 = coV (aN Z) ((aR Z 0).length + (aR Z 1).length) (aT Z) (aG Z 0 + aG Z 1) (aQ Z) 1) := hw_572
  have v_572 := hw_572
  have hv572 : x_572 = iI (↑((aR Z 0).length + (aR Z 1).length)) := v_572.trans (coV_n.2.1 rfl)
  refine lv_iload hx hb dL_law_575 (lv_at hl 6 rfl) ?_
  refine lz_icmp_ne (tgt := 634) hx hb hv572 hli ⟨by omega, by omega⟩ dL_law_577 (by decide) (fun c_577 => ?_) (fun c_577 => ?_)
  · exfalso; omega
  · refine lv_aload_n hx hb dL_law_580 rfl (lv_at hl 1 rfl) ?_
    refine lz_iconst hx hb dL_law_581 (fun x_581 v_581 => ?_)
    refine cr_i (va_runV (As := [.int x_581]) (rest := []) ⟨hx, hb, hml, hown, hts⟩ (k_X3_count_P l D cI cZ cJ cK _ x_581 ad Z cx 2 hC hI (v_581.trans (congrArg iI (by omega))) (by omega)) (cwV 1 hts (gV qw397 qw398 qw399 qw10 qw400) rfl rfl rfl (by decide +kernel) ⟨Nat.le_of_ble_eq_true rfl, Nat.le_of_ble_eq_true rfl⟩) (pvP (ci := 3) (r := (RX3, TX3, 5)) (q0 := 0) (wr := SP) hP hD hK hT hZ hS List.perm_append_comm rfl rfl) rfl rfl hl.1 rfl (lv_room (Nat.le_of_ble_eq_true rfl)) dL_law_582 ⟨(by show cells ≤ 600130; omega), (by show slots ≤ 7301080; omega)⟩) hS hP (fun x_582 H locs hw_582 hP hS => ?_)
    replace hw_582 : (x_582 = coV (aN Z) ((aR Z 0).length + (aR Z 1).length) (aT Z) (aG Z 0 + aG Z 1) (aQ Z) 2) := hw_582
    have v_582 := hw_582
    have hv582 : x_582 = aT Z := v_582.trans (coV_n.2.2.1 rfl)
    refine lv_iload hx hb dL_law_585 (lv_at hl 8 rfl) ?_
    refine lv_icmp_ne (tgt := 634) hx hb dL_law_587 (by decide) (fun c_587 => ?_) (fun c_587 => ?_)
    · exfalso; exact c_587 (hv582.trans (p2.symm.trans hmm.symm))
    · refine lv_aload_n hx hb dL_law_590 rfl (lv_at hl 1 rfl) ?_
      refine lz_iconst hx hb dL_law_591 (fun x_591 v_591 => ?_)
      refine cr_i (va_runV (As := [.int x_591]) (rest := []) ⟨hx, hb, hml, hown, hts⟩ (k_X3_count_P l D cI cZ cJ cK _ x_591 ad Z cx 3 hC hI (v_591.trans (congrArg iI (by omega))) (by omega)) (cwV 1 hts (gV qw397 qw398 qw399 qw10 qw400) rfl rfl rfl (by decide +kernel) ⟨Nat.le_of_ble_eq_true rfl, Nat.le_of_ble_eq_true rfl⟩) (pvP (ci := 3) (r := (RX3, TX3, 5)) (q0 := 0) (wr := SP) hP hD hK hT hZ hS List.perm_append_comm rfl rfl) rfl rfl hl.1 rfl (lv_room (Nat.le_of_ble_eq_true rfl)) dL_law_592 ⟨(by show cells ≤ 600130; omega), (by show slots ≤ 7301080; omega)⟩) hS hP (fun x_592 H locs hw_592 hP hS => ?_)
      replace hw_592 : (x_592 = coV (aN Z) ((aR Z 0).length + (aR Z 1).length) (aT Z) (aG Z 0 + aG Z 1) (aQ Z) 3) := hw_592
      have v_592 := hw_592
      have hv592 : x_592 = iI (sumK (aK Z) (aN Z)) := v_592.trans ((coV_n.2.2.2.1 rfl).trans p3)
      refine lv_iload hx hb dL_law_595 (lv_at hl 7 rfl) ?_
      refine lz_icmp_ne (tgt := 634) hx hb hv592 hrr ⟨by omega, by omega⟩ dL_law_597 (by decide) (fun c_597 => ?_) (fun c_597 => ?_)
      · exfalso; omega
      · refine lv_iload hx hb dL_law_600 (lv_at hl 7 rfl) ?_
        refine lv_aload_n hx hb dL_law_602 rfl (lv_at hl 1 rfl) ?_
        refine lz_iconst hx hb dL_law_603 (fun x_603 v_603 => ?_)
        refine lz_iconst hx hb dL_law_604 (fun x_604 v_604 => ?_)
        refine cr_i (va_runV (As := [.int x_603, .int x_604]) (rest := [.int rr]) ⟨hx, hb, hml, hown, hts⟩ (k_X3_about_P l D cI cZ cJ cK _ x_603 x_604 ad Z cx 0 4 hC hI (v_603.trans (congrArg iI (by omega))) (by omega) (v_604.trans (congrArg iI (by omega))) (by omega)) (cwV 2 hts (gV qw344 qw345 qw346 qw10 qw347) rfl rfl rfl (by decide +kernel) ⟨Nat.le_of_ble_eq_true rfl, Nat.le_of_ble_eq_true rfl⟩) (pvP (ci := 3) (r := (RX3, TX3, 5)) (q0 := 0) (wr := SP) hP hD hK hT hZ hS List.perm_append_comm rfl rfl) rfl rfl hl.1 rfl (lv_room (Nat.le_of_ble_eq_true rfl)) dL_law_605 ⟨(by show cells ≤ 600130; omega), (by show slots ≤ 7301080; omega)⟩) hS hP (fun x_605 H locs hw_605 hP hS => ?_)
        replace hw_605 : (x_605 = abV (aL Z 0) (aH Z) (aR Z 0) (aG Z 0) 4) := hw_605
        have v_605 := hw_605
        have hv605 : x_605 = aG Z 0 := v_605.trans (abV_n.2.2.2.2.1 rfl)
        refine lv_aload_n hx hb dL_law_608 rfl (lv_at hl 1 rfl) ?_
        refine lz_iconst hx hb dL_law_609 (fun x_609 v_609 => ?_)
        refine lz_iconst hx hb dL_law_610 (fun x_610 v_610 => ?_)
        refine cr_i (va_runV (As := [.int x_609, .int x_610]) (rest := [.int x_605, .int rr]) ⟨hx, hb, hml, hown, hts⟩ (k_X3_about_P l D cI cZ cJ cK _ x_609 x_610 ad Z cx 1 4 hC hI (v_609.trans (congrArg iI (by omega))) (by omega) (v_610.trans (congrArg iI (by omega))) (by omega)) (cwV 2 hts (gV qw344 qw345 qw346 qw10 qw347) rfl rfl rfl (by decide +kernel) ⟨Nat.le_of_ble_eq_true rfl, Nat.le_of_ble_eq_true rfl⟩) (pvP (ci := 3) (r := (RX3, TX3, 5)) (q0 := 0) (wr := SP) hP hD hK hT hZ hS List.perm_append_comm rfl rfl) rfl rfl hl.1 rfl (lv_room (Nat.le_of_ble_eq_true rfl)) dL_law_611 ⟨(by show cells ≤ 600130; omega), (by show slots ≤ 7301080; omega)⟩) hS hP (fun x_611 H locs hw_611 hP hS => ?_)
        replace hw_611 : (x_611 = abV (aL Z 1) (aH Z) (aR Z 1) (aG Z 1) 4) := hw_611
        have v_611 := hw_611
        have hv611 : x_611 = aG Z 1 := v_611.trans (abV_n.2.2.2.2.1 rfl)
        refine lv_iadd hx hb dL_law_614 ?_
        refine lv_topi (fun x_614 e_614 => ?_)
        refine lv_icmp_ne (tgt := 634) hx hb dL_law_615 (by decide) (fun c_615 => ?_) (fun c_615 => ?_)
        · exfalso; exact c_615 (hrr.trans (by rw [e_614, hv605, hv611, p3]))
        · refine lv_iload hx hb dL_law_618 (lv_at hl 5 rfl) ?_
          refine lv_iload hx hb dL_law_620 (lv_at hl 6 rfl) ?_
          refine lv_iload hx hb dL_law_622 (lv_at hl 7 rfl) ?_
          refine lz_iadd hx hb hli hrr dL_law_624 (fun x_624 v_624 => ?_)
          refine lv_aload_n hx hb dL_law_625 rfl (lv_at hl 1 rfl) ?_
          refine lz_iconst hx hb dL_law_626 (fun x_626 v_626 => ?_)
          refine cr_i (va_runV (As := [.int x_626]) (rest := [.int x_624, .int nn]) ⟨hx, hb, hml, hown, hts⟩ (k_X3_count_P l D cI cZ cJ cK _ x_626 ad Z cx 4 hC hI (v_626.trans (congrArg iI (by omega))) (by omega)) (cwV 1 hts (gV qw397 qw398 qw399 qw10 qw400) rfl rfl rfl (by decide +kernel) ⟨Nat.le_of_ble_eq_true rfl, Nat.le_of_ble_eq_true rfl⟩) (pvP (ci := 3) (r := (RX3, TX3, 5)) (q0 := 0) (wr := SP) hP hD hK hT hZ hS List.perm_append_comm rfl rfl) rfl rfl hl.1 rfl (lv_room (Nat.le_of_ble_eq_true rfl)) dL_law_627 ⟨(by show cells ≤ 600130; omega), (by show slots ≤ 7301080; omega)⟩) hS hP (fun x_627 H locs hw_627 hP hS => ?_)
          replace hw_627 : (x_627 = coV (aN Z) ((aR Z 0).length + (aR Z 1).length) (aT Z) (aG Z 0 + aG Z 1) (aQ Z) 4) := hw_627
          have v_627 := hw_627
          have hv627 : x_627 = iI (↑q) := (v_627.trans (coV_n.2.2.2.2 rfl)).trans hq2
          refine lz_iadd hx hb v_624 hv627 dL_law_630 (fun x_630 v_630 => ?_)
          refine lz_icmp_eq (tgt := 636) hx hb hnn v_630 ⟨by omega, by omega⟩ dL_law_631 (by decide) (fun c_631 => ?_) (fun c_631 => ?_)
          · refine lv_iload hx hb dL_law_636 (lv_at hl 4 rfl) ?_
            refine lz_iconst hx hb dL_law_638 (fun x_638 v_638 => ?_)
            refine lv_ishr hx hb dL_law_639 ?_
            refine lv_topi (fun x_639 e_639 => ?_)
            refine lz_iconst hx hb dL_law_640 (fun x_640 v_640 => ?_)
            refine cr_i (va_runS (As := [.int x_639, .int x_640]) (rest := []) ⟨hx, hb, hml, hown, hts⟩ (k_L_below l D cI cZ cJ cK _ x_639 x_640 2 (v_640.trans (congrArg iI (by omega))) (by omega) (by omega)) (va_cwS 2 hts (gS qw513 qw514 qw9 qw515) rfl rfl rfl (by decide +kernel) ⟨Nat.le_of_ble_eq_true rfl, Nat.le_of_ble_eq_true rfl⟩) (ps hP hD hK hT hZ hS [] rfl rfl) rfl rfl hl.1 rfl (lv_room (Nat.le_of_ble_eq_true rfl)) dL_law_641 ⟨(by show cells ≤ 600130; omega), (by show slots ≤ 7301080; omega)⟩) hS hP (fun x_641 H locs hw_641 hP hS => ?_)
            replace hw_641 : (x_641 = iI (↑(bel x_639 2))) := hw_641
            have v_641 := hw_641
            obtain ⟨h, hh2, hh⟩ : ∃ h : Nat, h < 2 ∧ x_641 = iI ↑h := ⟨_, bel_lt x_639 (by decide), v_641⟩
            obtain ⟨m1, m2, m3⟩ := AI_len hI hh2
            obtain ⟨j1, j2, j3⟩ := hI.2.2.1 h hh2
            refine lv_istore (lv' := [(12, .int x_641), (0, .ref bs), (1, .ref (ad 0)), (2, .ref t1), (3, .int tt), (4, .int xx), (7, .int nn), (9, .int li), (10, .int rr), (11, .int mm)]) hx hb dL_law_644 hl (by decide) rfl (fun ls hl => ?_)
            refine lv_aload_n hx hb dL_law_646 rfl (lv_at hl 2 rfl) ?_
            refine lv_iload hx hb dL_law_647 (lv_at hl 0 rfl) ?_
            refine lz_iconst hx hb dL_law_649 (fun x_649 v_649 => ?_)
            refine cr_i (va_runV (As := [.int x_641, .int x_649]) (rest := []) ⟨hx, hb, hml, hown, hts⟩ (k_X3_about_P l D cI cZ cJ cK _ x_641 x_649 ad Z cx h 0 hC hI (hh.trans (congrArg iI (by omega))) (by omega) (v_649.trans (congrArg iI (by omega))) (by omega)) (cwV 2 hts (gV qw344 qw345 qw346 qw10 qw347) rfl rfl rfl (by decide +kernel) ⟨Nat.le_of_ble_eq_true rfl, Nat.le_of_ble_eq_true rfl⟩) (pvP (ci := 3) (r := (RX3, TX3, 5)) (q0 := 0) (wr := SP) hP hD hK hT hZ hS List.perm_append_comm rfl rfl) rfl rfl hl.1 rfl (lv_room (Nat.le_of_ble_eq_true rfl)) dL_law_650 ⟨(by show cells ≤ 600130; omega), (by show slots ≤ 7301080; omega)⟩) hS hP (fun x_650 H locs hw_650 hP hS => ?_)
            replace hw_650 : (x_650 = abV (aL Z h) (aH Z) (aR Z h) (aG Z h) 0) := hw_650
            have v_650 := hw_650
            have hv650 : x_650 = iI (↑(aR Z h).length) := v_650.trans (abV_n.1 rfl)
            refine lv_istore (lv' := [(13, .int x_650), (12, .int x_641), (0, .ref bs), (1, .ref (ad 0)), (2, .ref t1), (3, .int tt), (4, .int xx), (7, .int nn), (9, .int li), (10, .int rr), (11, .int mm)]) hx hb dL_law_653 hl (by decide) rfl (fun ls hl => ?_)
            refine lv_aload_n hx hb dL_law_655 rfl (lv_at hl 3 rfl) ?_
            refine cr_l (va_runV (As := []) (rest := []) ⟨hx, hb, hml, hown, hts⟩ (k_X3_digest_P l D cI cZ cJ cK _ ad Z cx hC hI) (cwV 0 hts (gV qw443 qw444 qw445 qw10 qw446) rfl rfl rfl (by decide +kernel) ⟨Nat.le_of_ble_eq_true rfl, Nat.le_of_ble_eq_true rfl⟩) (pvP (ci := 3) (r := (RX3, TX3, 5)) (q0 := 0) (wr := SP) hP hD hK hT hZ hS List.perm_append_comm rfl rfl) rfl rfl hl.1 rfl (lv_room (Nat.le_of_ble_eq_true rfl)) dL_law_656 ⟨(by show cells ≤ 600130; omega), (by show slots ≤ 7301080; omega)⟩) hS hP (fun x_656 H locs hw_656 hP hS => ?_)
            replace hw_656 : (x_656 = diF (aN Z) (aL Z 0) (aL Z 1) (aH Z) (aR Z 0) (aR Z 1) (aV Z) (aK Z) (aM Z) (aT Z) (aG Z 0) (aG Z 1) (aG Z 0 + aG Z 1) (aQ Z)) := hw_656
            have v_656 := hw_656
            have hbe : x_656 = diF (aN Z) (aL Z 0) (aL Z 1) (aH Z) (aR Z 0) (aR Z 1) (aV Z) (aK Z) (aM Z) (aT Z) (aG Z 0) (aG Z 1) (aG Z 0 + aG Z 1) (aQ Z) := v_656
            refine lv_lstore (lv' := [(14, .long x_656), (13, .int x_650), (12, .int x_641), (0, .ref bs), (1, .ref (ad 0)), (2, .ref t1), (3, .int tt), (4, .int xx), (7, .int nn), (9, .int li), (10, .int rr), (11, .int mm)]) hx hb dL_law_659 hl (by decide) rfl (fun ls hl => ?_)
            refine lz_iconst hx hb dL_law_661 (fun x_661 v_661 => ?_)
            refine lv_istore (lv' := [(16, .int x_661), (14, .long x_656), (13, .int x_650), (12, .int x_641), (0, .ref bs), (1, .ref (ad 0)), (2, .ref t1), (3, .int tt), (4, .int xx), (7, .int nn), (9, .int li), (10, .int rr), (11, .int mm)]) hx hb dL_law_662 hl (by decide) rfl (fun ls hl => ?_)
            refine lz_iconst hx hb dL_law_664 (fun x_664 v_664 => ?_)
            refine lv_istore (lv' := [(17, .int x_664), (16, .int x_661), (14, .long x_656), (13, .int x_650), (12, .int x_641), (0, .ref bs), (1, .ref (ad 0)), (2, .ref t1), (3, .int tt), (4, .int xx), (7, .int nn), (9, .int li), (10, .int rr), (11, .int mm)]) hx hb dL_law_665 hl (by decide) rfl (fun ls hl => ?_)
            refine lz_iconst hx hb dL_law_667 (fun x_667 v_667 => ?_)
            refine lv_istore (lv' := [(18, .int x_667), (17, .int x_664), (16, .int x_661), (14, .long x_656), (13, .int x_650), (12, .int x_641), (0, .ref bs), (1, .ref (ad 0)), (2, .ref t1), (3, .int tt), (4, .int xx), (7, .int nn), (9, .int li), (10, .int rr), (11, .int mm)]) hx hb dL_law_668 hl (by decide) rfl (fun ls hl => ?_)
            have key670 : ∀ (fu : Nat) (pl : Nat) (pp9 : Int32) (zl : Int) (la : Int32) (lm : Int32) (cxi : CX) (H : Heap) (locs : List Loc) (ls : Array Slot), (aR Z h).length + 1 - pl < fu → (pp9 = iI (↑pl)) → (pl ≤ (aR Z h).length) → (la = iI (zl)) → (-1 ≤ zl ∧ zl < 1024 ∧ (pl < (aR Z h).length → zl ≤ ↑(aH Z (nxE (aL Z h) (aH Z) (aR Z h) pl)))) → (lm = iI (↑((rkBs (aL Z h) (aH Z) (aR Z h) pl).length))) → (CStx Z cxi) → va_P D vwCl ((clsW cI cZ ad cxi) ++ SP) H → va_D A ((clsW cI cZ ad cxi) ++ SP) → va_S A s.heap H locs → lv_has ls 22 [(18, .int pp9), (17, .int lm), (16, .int la), (14, .long x_656), (13, .int x_650), (12, .int x_641), (0, .ref bs), (1, .ref (ad 0)), (2, .ref t1), (3, .int tt), (4, .int xx), (7, .int nn), (9, .int li), (10, .int rr), (11, .int mm)] → W p l e room_1 s m args below meth c H locs (cells + 2 * pl) (slots + 12 * pl) Q (F0 m 670 ls []) := by
              intro fu
              induction fu with
              | zero => intros; omega
              | succ fu ih670 =>
                intro pl pp9 zl la lm cxi H locs ls hfu hip hlp hla hzl hlm hC hP hD hS hl
                refine lv_iload hx hb dL_law_670 (lv_at hl 0 rfl) ?_
                refine lv_iload hx hb dL_law_672 (lv_at hl 4 rfl) ?_
                refine lz_icmp_ge (tgt := 764) hx hb hip hv650 ⟨by omega, by omega⟩ dL_law_674 (by decide) (fun c_674 => ?_) (fun c_674 => ?_)
                · refine W.widen (k := cells + 80) (n := slots + 480) (by omega) (by omega) ?_
                  exact kk h x_641 x_650 x_656 cxi _ _ _ (hh2) (hh) (hv650) (hbe) (hC) hP hD hS (lv_sub hl [6, 7, 8, 9, 5, 4, 3] rfl)
                · have hnx := nx_in j2 j3 (show pl < (aR Z h).length by omega)
                  obtain ⟨e9, he9⟩ : ∃ e9, e9 = (nxE (aL Z h) (aH Z) (aR Z h) pl) := ⟨_, rfl⟩
                  rw [← he9] at hnx hzl
                  obtain ⟨w1, w2, w3, w4, w5, w6⟩ := rw_in hI hh2 hnx
                  obtain ⟨r1, r2⟩ := rkBs_st j2 j3 (show pl < (aR Z h).length by omega)
                  have r3 := rkBs_len j2 j3 pl (by omega)
                  have r4 := Nat.mul_le_mul (show pl ≤ 40 by omega) (show (aR Z h).length ≤ 40 by omega)
                  refine lv_aload_n hx hb dL_law_677 rfl (lv_at hl 7 rfl) ?_
                  refine lv_iload hx hb dL_law_678 (lv_at hl 5 rfl) ?_
                  refine lv_iload hx hb dL_law_680 (lv_at hl 0 rfl) ?_
                  refine cp_i (wr := SP) (ws2 := fun u9 => ((clsW cI cZ ad u9) ++ SP)) (va_runV (As := [.int x_641, .int pp9]) (rest := []) ⟨hx, hb, hml, hown, hts⟩ (k_X3_next_P l D cI cZ cJ cK _ x_641 pp9 ad Z cxi h pl hl0 hC hI (hh.trans (congrArg iI (by omega))) (by omega) (hip.trans (congrArg iI (by omega))) (by omega)) (cwV 2 hts (gV qw410 qw411 qw412 qw10 qw413) rfl rfl rfl (by decide +kernel) ⟨Nat.le_of_ble_eq_true rfl, Nat.le_of_ble_eq_true rfl⟩) (pvP (ci := 3) (r := (RX3, TX3, 5)) (q0 := 0) (wr := SP) hP hD hK hT hZ hS List.perm_append_comm rfl rfl) rfl rfl hl.1 rfl (lv_room (Nat.le_of_ble_eq_true rfl)) dL_law_682 ⟨(by show ((cells + 2 * pl) + 1) ≤ 600130; omega), (by show ((slots + 12 * pl) + 6) ≤ 7301080; omega)⟩) hS hP hD hA List.perm_append_comm (fun _ => List.perm_append_comm) (fun x_682 u_682 H locs hw_682 hP hD hS => ?_)
                  obtain ⟨cx2_682, rfl⟩ : ∃ z, z = u_682 := ⟨_, rfl⟩
                  have hP : va_P D vwCl ((clsW cI cZ ad cx2_682) ++ SP) H := hP
                  have hD : va_D A ((clsW cI cZ ad cx2_682) ++ SP) := hD
                  replace hw_682 : (x_682 = iI (↑((rkL (rkI (aL Z h) (aH Z) (aR Z h) pl).1 (aH Z) (rkI (aL Z h) (aH Z) (aR Z h) pl).2).headD 0))) ∧ (CStx Z cx2_682) := hw_682
                  obtain ⟨v_682, c_682⟩ := hw_682
                  have hv682 : x_682 = iI ↑e9 := by
                    rw [he9]
                    exact v_682
                  have hC := c_682
                  have hz3 := hzl.2.2 (by omega)
                  refine lv_istore (lv' := [(19, .int x_682), (18, .int pp9), (17, .int lm), (16, .int la), (14, .long x_656), (13, .int x_650), (12, .int x_641), (0, .ref bs), (1, .ref (ad 0)), (2, .ref t1), (3, .int tt), (4, .int xx), (7, .int nn), (9, .int li), (10, .int rr), (11, .int mm)]) hx hb dL_law_685 hl (by decide) rfl (fun ls hl => ?_)
                  refine lv_aload_n hx hb dL_law_687 rfl (lv_at hl 8 rfl) ?_
                  refine lv_iload hx hb dL_law_688 (lv_at hl 6 rfl) ?_
                  refine lv_iload hx hb dL_law_690 (lv_at hl 1 rfl) ?_
                  refine lz_iconst hx hb dL_law_692 (fun x_692 v_692 => ?_)
                  refine lz_iadd hx hb hip v_692 dL_law_693 (fun x_693 v_693 => ?_)
                  refine cp_i (wr := SP) (ws2 := fun u9 => ((clsW cI cZ ad u9) ++ SP)) (va_runV (As := [.int x_641, .int x_693]) (rest := []) ⟨hx, hb, hml, hown, hts⟩ (k_X3_moves_P l D cI cZ cJ cK _ x_641 x_693 ad Z cx2_682 h (pl + 1) hl0 hC hI (hh.trans (congrArg iI (by omega))) (by omega) (v_693.trans (congrArg iI (by omega))) (by omega)) (cwV 2 hts (gV qw428 qw429 qw430 qw10 qw431) rfl rfl rfl (by decide +kernel) ⟨Nat.le_of_ble_eq_true rfl, Nat.le_of_ble_eq_true rfl⟩) (pvP (ci := 3) (r := (RX3, TX3, 5)) (q0 := 0) (wr := SP) hP hD hK hT hZ hS List.perm_append_comm rfl rfl) rfl rfl hl.1 rfl (lv_room (Nat.le_of_ble_eq_true rfl)) dL_law_694 ⟨(by show (((cells + 2 * pl) + 1) + 1) ≤ 600130; omega), (by show (((slots + 12 * pl) + 6) + 6) ≤ 7301080; omega)⟩) hS hP hD hA List.perm_append_comm (fun _ => List.perm_append_comm) (fun x_694 u_694 H locs hw_694 hP hD hS => ?_)
                  obtain ⟨cx2_694, rfl⟩ : ∃ z, z = u_694 := ⟨_, rfl⟩
                  have hP : va_P D vwCl ((clsW cI cZ ad cx2_694) ++ SP) H := hP
                  have hD : va_D A ((clsW cI cZ ad cx2_694) ++ SP) := hD
                  replace hw_694 : (x_694 = iI (↑(rkBs (aL Z h) (aH Z) (aR Z h) (pl + 1)).length)) ∧ (CStx Z cx2_694) := hw_694
                  obtain ⟨v_694, c_694⟩ := hw_694
                  have hC := c_694
                  refine lv_istore (lv' := [(20, .int x_694), (19, .int x_682), (18, .int pp9), (17, .int lm), (16, .int la), (14, .long x_656), (13, .int x_650), (12, .int x_641), (0, .ref bs), (1, .ref (ad 0)), (2, .ref t1), (3, .int tt), (4, .int xx), (7, .int nn), (9, .int li), (10, .int rr), (11, .int mm)]) hx hb dL_law_697 hl (by decide) rfl (fun ls hl => ?_)
                  refine lv_aload_n hx hb dL_law_699 rfl (lv_at hl 9 rfl) ?_
                  refine lv_iload hx hb dL_law_700 (lv_at hl 1 rfl) ?_
                  refine lz_iconst hx hb dL_law_702 (fun x_702 v_702 => ?_)
                  refine cr_i (va_runV (As := [.int x_682, .int x_702]) (rest := []) ⟨hx, hb, hml, hown, hts⟩ (k_X3_told_P l D cI cZ cJ cK _ x_682 x_702 ad Z cx2_694 e9 1 hC hI (hv682.trans (congrArg iI (by omega))) (by omega) (v_702.trans (congrArg iI (by omega))) (by omega)) (cwV 2 hts (gV qw369 qw370 qw371 qw10 qw372) rfl rfl rfl (by decide +kernel) ⟨Nat.le_of_ble_eq_true rfl, Nat.le_of_ble_eq_true rfl⟩) (pvP (ci := 3) (r := (RX3, TX3, 5)) (q0 := 0) (wr := SP) hP hD hK hT hZ hS List.perm_append_comm rfl rfl) rfl rfl hl.1 rfl (lv_room (Nat.le_of_ble_eq_true rfl)) dL_law_703 ⟨(by show (((cells + 2 * pl) + 1) + 1) ≤ 600130; omega), (by show (((slots + 12 * pl) + 6) + 6) ≤ 7301080; omega)⟩) hS hP (fun x_703 H locs hw_703 hP hS => ?_)
                  replace hw_703 : (x_703 = toV (aH Z e9) (aV Z e9) (bkA (aV Z e9) (aL Z 0) (aL Z 1) (aH Z e9)) (aM Z e9) (aK Z e9) 1) := hw_703
                  have v_703 := hw_703
                  have hv703 : x_703 = iI (↑h) := v_703.trans ((toV_n.2.1 rfl).trans (congrArg iI w4))
                  refine lv_iload hx hb dL_law_706 (lv_at hl 7 rfl) ?_
                  refine lz_icmp_ne (tgt := 743) hx hb hv703 hh ⟨by omega, by omega⟩ dL_law_708 (by decide) (fun c_708 => ?_) (fun c_708 => ?_)
                  · exfalso; omega
                  · refine lv_aload_n hx hb dL_law_711 rfl (lv_at hl 9 rfl) ?_
                    refine lv_iload hx hb dL_law_712 (lv_at hl 1 rfl) ?_
                    refine lz_iconst hx hb dL_law_714 (fun x_714 v_714 => ?_)
                    refine cr_i (va_runV (As := [.int x_682, .int x_714]) (rest := []) ⟨hx, hb, hml, hown, hts⟩ (k_X3_told_P l D cI cZ cJ cK _ x_682 x_714 ad Z cx2_694 e9 0 hC hI (hv682.trans (congrArg iI (by omega))) (by omega) (v_714.trans (congrArg iI (by omega))) (by omega)) (cwV 2 hts (gV qw369 qw370 qw371 qw10 qw372) rfl rfl rfl (by decide +kernel) ⟨Nat.le_of_ble_eq_true rfl, Nat.le_of_ble_eq_true rfl⟩) (pvP (ci := 3) (r := (RX3, TX3, 5)) (q0 := 0) (wr := SP) hP hD hK hT hZ hS List.perm_append_comm rfl rfl) rfl rfl hl.1 rfl (lv_room (Nat.le_of_ble_eq_true rfl)) dL_law_715 ⟨(by show (((cells + 2 * pl) + 1) + 1) ≤ 600130; omega), (by show (((slots + 12 * pl) + 6) + 6) ≤ 7301080; omega)⟩) hS hP (fun x_715 H locs hw_715 hP hS => ?_)
                    replace hw_715 : (x_715 = toV (aH Z e9) (aV Z e9) (bkA (aV Z e9) (aL Z 0) (aL Z 1) (aH Z e9)) (aM Z e9) (aK Z e9) 0) := hw_715
                    have v_715 := hw_715
                    have hv715 : x_715 = iI (↑(aH Z e9)) := v_715.trans ((toV_n.1 rfl))
                    refine lv_iload hx hb dL_law_718 (lv_at hl 4 rfl) ?_
                    refine lz_icmp_lt (tgt := 743) hx hb hv715 hla ⟨by omega, by omega⟩ dL_law_720 (by decide) (fun c_720 => ?_) (fun c_720 => ?_)
                    · exfalso; omega
                    · refine lv_iload hx hb dL_law_723 (lv_at hl 0 rfl) ?_
                      refine lv_iload hx hb dL_law_725 (lv_at hl 3 rfl) ?_
                      refine lz_icmp_lt (tgt := 743) hx hb v_694 hlm ⟨by omega, by omega⟩ dL_law_727 (by decide) (fun c_727 => ?_) (fun c_727 => ?_)
                      · exfalso; omega
                      · refine lv_iload hx hb dL_law_730 (lv_at hl 0 rfl) ?_
                        refine lv_iload hx hb dL_law_732 (lv_at hl 3 rfl) ?_
                        refine lv_iload hx hb dL_law_734 (lv_at hl 6 rfl) ?_
                        refine lz_iadd hx hb hlm hv650 dL_law_736 (fun x_736 v_736 => ?_)
                        refine lv_iload hx hb dL_law_737 (lv_at hl 2 rfl) ?_
                        refine lz_isub hx hb v_736 hip dL_law_739 (fun x_739 v_739 => ?_)
                        refine lz_icmp_le (tgt := 745) hx hb v_694 v_739 ⟨by omega, by omega⟩ dL_law_740 (by decide) (fun c_740 => ?_) (fun c_740 => ?_)
                        · refine lv_aload_n hx hb dL_law_745 rfl (lv_at hl 9 rfl) ?_
                          refine lv_iload hx hb dL_law_746 (lv_at hl 1 rfl) ?_
                          refine lz_iconst hx hb dL_law_748 (fun x_748 v_748 => ?_)
                          refine cr_i (va_runV (As := [.int x_682, .int x_748]) (rest := []) ⟨hx, hb, hml, hown, hts⟩ (k_X3_told_P l D cI cZ cJ cK _ x_682 x_748 ad Z cx2_694 e9 0 hC hI (hv682.trans (congrArg iI (by omega))) (by omega) (v_748.trans (congrArg iI (by omega))) (by omega)) (cwV 2 hts (gV qw369 qw370 qw371 qw10 qw372) rfl rfl rfl (by decide +kernel) ⟨Nat.le_of_ble_eq_true rfl, Nat.le_of_ble_eq_true rfl⟩) (pvP (ci := 3) (r := (RX3, TX3, 5)) (q0 := 0) (wr := SP) hP hD hK hT hZ hS List.perm_append_comm rfl rfl) rfl rfl hl.1 rfl (lv_room (Nat.le_of_ble_eq_true rfl)) dL_law_749 ⟨(by show (((cells + 2 * pl) + 1) + 1) ≤ 600130; omega), (by show (((slots + 12 * pl) + 6) + 6) ≤ 7301080; omega)⟩) hS hP (fun x_749 H locs hw_749 hP hS => ?_)
                          replace hw_749 : (x_749 = toV (aH Z e9) (aV Z e9) (bkA (aV Z e9) (aL Z 0) (aL Z 1) (aH Z e9)) (aM Z e9) (aK Z e9) 0) := hw_749
                          have v_749 := hw_749
                          have hv749 : x_749 = iI (↑(aH Z e9)) := v_749.trans ((toV_n.1 rfl))
                          refine lv_istore (lv' := [(16, .int x_749), (20, .int x_694), (19, .int x_682), (18, .int pp9), (17, .int lm), (14, .long x_656), (13, .int x_650), (12, .int x_641), (0, .ref bs), (1, .ref (ad 0)), (2, .ref t1), (3, .int tt), (4, .int xx), (7, .int nn), (9, .int li), (10, .int rr), (11, .int mm)]) hx hb dL_law_752 hl (by decide) rfl (fun ls hl => ?_)
                          refine lv_iload hx hb dL_law_754 (lv_at hl 1 rfl) ?_
                          refine lv_istore (lv' := [(17, .int x_694), (16, .int x_749), (20, .int x_694), (19, .int x_682), (18, .int pp9), (14, .long x_656), (13, .int x_650), (12, .int x_641), (0, .ref bs), (1, .ref (ad 0)), (2, .ref t1), (3, .int tt), (4, .int xx), (7, .int nn), (9, .int li), (10, .int rr), (11, .int mm)]) hx hb dL_law_756 hl (by decide) rfl (fun ls hl => ?_)
                          refine lz_iinc (lv2 := fun z => [(18, .int z), (17, .int x_694), (16, .int x_749), (20, .int x_694), (19, .int x_682), (14, .long x_656), (13, .int x_650), (12, .int x_641), (0, .ref bs), (1, .ref (ad 0)), (2, .ref t1), (3, .int tt), (4, .int xx), (7, .int nn), (9, .int li), (10, .int rr), (11, .int mm)]) hx hb dL_law_758 hl (k := 4) rfl hip (by decide) (fun _ => rfl) (fun x_758 ls v_758 hl => ?_)
                          refine lv_goto (tgt := 670) hx hb dL_law_761 (by decide) ?_
                          refine W.widen (k := (cells + 2 * (pl + 1))) (n := (slots + 12 * (pl + 1))) (by omega) (by omega) ?_
                          exact ih670 (pl + 1) x_758 (↑(aH Z e9) : Int) x_749 x_694 cx2_694 _ _ _ (by omega) (v_758.trans (congrArg iI (by omega))) (by omega) (hv749.trans (congrArg iI (by omega))) (⟨by omega, by omega, fun hlt => by rw [he9]; exact_mod_cast nx_mono j2 j3 hlt⟩) (v_694.trans (congrArg iI (by omega))) (c_694) hP hD hS (lv_sub hl [0, 1, 2, 5, 6, 7, 8, 9, 10, 11, 12, 13, 14, 15, 16] rfl)
                        · exfalso; omega
            refine W.widen (k := (cells + 2 * 0)) (n := (slots + 12 * 0)) (by omega) (by omega) ?_
            exact key670 _ 0 x_667 (-1) x_661 x_664 cx _ _ _ (Nat.lt_succ_self _) (v_667.trans (congrArg iI (by omega))) (by omega) (v_661.trans (congrArg iI (by omega))) (⟨by decide, by decide, fun _ => by omega⟩) (v_664) (hC) hP hD hS (lv_sub hl [0, 1, 2, 3, 4, 5, 6, 7, 8, 9, 10, 11, 12, 13, 14] rfl)
          · exfalso; omega
