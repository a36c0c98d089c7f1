set_option maxHeartbeats 4000000 in
set_option maxRecDepth 100000 in
theorem t_s2 {p : Program} {e : Env} {s : State} {m : MethodId} {args : Array Value} {below : List Frame} {meth : Method} {c : Code} {Q : State → Prop} {A : Nat → Prop} (l : Launch) (hl0 : l.stackTraces = false) (D : va_G) (cI cZ cJ cK : ClassId) (ad : Nat → Nat) (Z : va_AS) (cx : CX) (SP : va_W) (bs : Nat) (t1 : Nat) (tt : Int32) (xx : Int32) (ql : Nat) (qs : Nat) (gl : Nat → Int32) (g0 : Nat → Int32) (nn : Int32) (li : Int32) {H : Heap} {locs : List Loc} {ls : Array Slot} {cells slots : Nat}  (hx : p.tables.exec = Jvm.exec) (hb : c.code = cL_law) (hml : c.maxLocals = 22) (hown : s.vm.findClass RL = some m.cls) (hts : ∀ w ∈ lw_G, w.before args s = true) (hT : TW s) (hZ : ZW A s s.heap) (hK : va_K D vwCl (KT cI cZ cJ cK) s) (hA : ∀ q : Nat, s.heap.size ≤ q → A q) (hC : CStx Z cx) (hI : AI Z) (hPI : PI Z) (hnn : nn = iI ↑(aN Z)) (hg : ∀ e, e < aN Z → g0 e = iI (sn (aV Z) 2 [] e)) (hP : va_P D vwCl ([(ql, .inl (cI, 2, .inl gl)), (qs, .inl (cI, (aN Z), .inl g0))] ++ ((clsW cI cZ ad cx) ++ SP)) H) (hD : va_D A ([(ql, .inl (cI, 2, .inl gl)), (qs, .inl (cI, (aN Z), .inl g0))] ++ ((clsW cI cZ ad cx) ++ SP))) (hS : va_S A s.heap H locs) (hl : lv_has ls 22 [(0, .ref bs), (1, .ref (ad 0)), (2, .ref t1), (3, .int tt), (4, .int xx), (7, .int nn), (8, .ref qs), (9, .int li)]) (hcc : cells + 0 ≤ 600130) (hss : slots + 0 ≤ 7301080) (kk : ∀ (rr : Int32) (mm : Int32) (H : Heap) (locs : List Loc) (ls : Array Slot), (rr = iI (sumK (aK Z) (aN Z))) → (mm = sumM (aM Z) (aN Z)) → va_P D vwCl ((clsW cI cZ ad cx) ++ SP) H → va_D A ((clsW cI cZ ad cx) ++ SP) → va_S A s.heap H locs → lv_has ls 22 [(0, .ref bs), (1, .ref (ad 0)), (2, .ref t1), (3, .int tt), (4, .int xx), (7, .int nn), (9, .int li), (10, .int rr), (11, .int mm)] → W p l e room_1 s m args below meth c H locs (cells + 0) (slots + 0) Q (F0 m 570 ls [])) : W p l e room_1 s m args below meth c H locs cells slots Q (F0 m 451 ls []) := by
  have m40 := hI.1
  refine lz_iconst hx hb dL_law_451 (fun x_451 v_451 => ?_)
  refine lv_istore (lv' := [(10, .int x_451), (0, .ref bs), (1, .ref (ad 0)), (2, .ref t1), (3, .int tt), (4, .int xx), (7, .int nn), (8, .ref qs), (9, .int li)]) hx hb dL_law_452 hl (by decide) rfl (fun ls hl => ?_)
  refine lz_iconst hx hb dL_law_454 (fun x_454 v_454 => ?_)
  refine lv_istore (lv' := [(11, .int x_454), (10, .int x_451), (0, .ref bs), (1, .ref (ad 0)), (2, .ref t1), (3, .int tt), (4, .int xx), (7, .int nn), (8, .ref qs), (9, .int li)]) hx hb dL_law_455 hl (by decide) rfl (fun ls hl => ?_)
  refine lz_iconst hx hb dL_law_457 (fun x_457 v_457 => ?_)
  refine lv_istore (lv' := [(12, .int x_457), (11, .int x_454), (10, .int x_451), (0, .ref bs), (1, .ref (ad 0)), (2, .ref t1), (3, .int tt), (4, .int xx), (7, .int nn), (8, .ref qs), (9, .int li)]) hx hb dL_law_458 hl (by decide) rfl (fun ls hl => ?_)
  have key460 : ∀ (fu : Nat) (e9 : Nat) (ee : Int32) (rr : Int32) (mm : Int32) (H : Heap) (locs : List Loc) (ls : Array Slot), aN Z + 1 - e9 < fu → (ee = iI (↑e9)) → (e9 ≤ aN Z) → (rr = iI (sumK (aK Z) e9)) → (mm = sumM (aM Z) e9) → va_P D vwCl ([(ql, .inl (cI, 2, .inl gl)), (qs, .inl (cI, (aN Z), .inl g0))] ++ ((clsW cI cZ ad cx) ++ SP)) H → va_D A ([(ql, .inl (cI, 2, .inl gl)), (qs, .inl (cI, (aN Z), .inl g0))] ++ ((clsW cI cZ ad cx) ++ SP)) → va_S A s.heap H locs → lv_has ls 22 [(12, .int ee), (11, .int mm), (10, .int rr), (0, .ref bs), (1, .ref (ad 0)), (2, .ref t1), (3, .int tt), (4, .int xx), (7, .int nn), (8, .ref qs), (9, .int li)] → W p l e room_1 s m args below meth c H locs cells slots Q (F0 m 460 ls []) := by
    intro fu
    induction fu with
    | zero => intros; omega
    | succ fu ih460 =>
      intro e9 ee rr mm H locs ls hfu hie hle9 hrr hmm hP hD hS hl
      refine lv_iload hx hb dL_law_460 (lv_at hl 0 rfl) ?_
      refine lv_iload hx hb dL_law_462 (lv_at hl 8 rfl) ?_
      refine lz_icmp_ge (tgt := 570) hx hb hie hnn ⟨by omega, by omega⟩ dL_law_464 (by decide) (fun c_464 => ?_) (fun c_464 => ?_)
      · have he9 : e9 = aN Z := by omega
        rw [he9] at hrr hmm
        refine W.widen (k := cells + 0) (n := slots + 0) (by omega) (by omega) ?_
        exact kk rr mm _ _ _ (hrr) (hmm) (ap_P hP).2 (ap_D hD).2 hS (lv_sub hl [3, 4, 5, 6, 7, 8, 10, 2, 1] rfl)
      · rcases (show aV Z e9 = -1 ∨ ¬ aV Z e9 = -1 by omega) with hav | hav
        · have hav9 := (hI.2.1 e9 (by omega)).2
          have s9 := (sn_2 hI (show e9 < aN Z by omega)).1 hav
          have b9 := (bkA_neg (aL Z 0) (aL Z 1) (aH Z e9) hav9).1 hav
          have brg := bkA_rg hI (show e9 < aN Z by omega)
          have hkr := hI.2.2.2.1 e9 (by omega)
          have hkg := sumK_rg e9 (fun i hi => hI.2.2.2.1 i (by omega))
          refine lv_aload_n hx hb dL_law_467 rfl (lv_at hl 4 rfl) ?_
          refine lv_iload hx hb dL_law_468 (lv_at hl 0 rfl) ?_
          refine lz_iconst hx hb dL_law_470 (fun x_470 v_470 => ?_)
          refine cr_i (va_runV (As := [.int ee, .int x_470]) (rest := []) ⟨hx, hb, hml, hown, hts⟩ (k_X3_told_P l D cI cZ cJ cK _ ee x_470 ad Z cx e9 1 hC hI (hie.trans (congrArg iI (by omega))) (by omega) (v_470.trans (congrArg iI (by omega))) (by omega)) (cwV 2 hts (gV qw369 qw370 qw371 qw10 qw372) rfl rfl rfl (by decide +kernel) ⟨Nat.le_of_ble_eq_true rfl, Nat.le_of_ble_eq_true rfl⟩) (pvP (ci := 3) (r := (RX3, TX3, 5)) (q0 := 2) (wr := ([(ql, .inl (cI, 2, .inl gl)), (qs, .inl (cI, (aN Z), .inl g0))] ++ SP)) hP hD hK hT hZ hS (pm_3 _ _ _) rfl rfl) rfl rfl hl.1 rfl (lv_room (Nat.le_of_ble_eq_true rfl)) dL_law_471 ⟨(by show cells ≤ 600130; omega), (by show slots ≤ 7301080; omega)⟩) hS hP (fun x_471 H locs hw_471 hP hS => ?_)
          replace hw_471 : (x_471 = toV (aH Z e9) (aV Z e9) (bkA (aV Z e9) (aL Z 0) (aL Z 1) (aH Z e9)) (aM Z e9) (aK Z e9) 1) := hw_471
          have v_471 := hw_471
          have hv471 : x_471 = iI (aV Z e9) := v_471.trans ((toV_n.2.1 rfl))
          refine lz_if_ge (tgt := 481) hx hb hv471 (by omega) dL_law_474 (by decide) (fun c_474 => ?_) (fun c_474 => ?_)
          · exfalso; omega
          · refine lz_iconst hx hb dL_law_477 (fun x_477 v_477 => ?_)
            refine lv_goto (tgt := 482) hx hb dL_law_478 (by decide) ?_
            refine lv_istore (lv' := [(13, .int x_477), (12, .int ee), (11, .int mm), (10, .int rr), (0, .ref bs), (1, .ref (ad 0)), (2, .ref t1), (3, .int tt), (4, .int xx), (7, .int nn), (8, .ref qs), (9, .int li)]) hx hb dL_law_482 hl (by decide) rfl (fun ls hl => ?_)
            refine lv_aload hx hb dL_law_484 (lv_at hl 10 rfl) ?_
            refine lv_iload hx hb dL_law_486 (lv_at hl 1 rfl) ?_
            refine lz_iald hx hb hK hP 1 0 rfl rfl hie (e9) (by omega) (by omega) (by omega) dL_law_488 (fun x_488 e_488 => ?_)
            have v_488 : x_488 = iI (sn (aV Z) 2 [] e9) := e_488.trans (hg _ (by omega))
            refine lv_iload hx hb dL_law_489 (lv_at hl 0 rfl) ?_
            refine lz_if_eq (tgt := 498) hx hb v_477 (by omega) dL_law_491 (by decide) (fun c_491 => ?_) (fun c_491 => ?_)
            · exfalso; omega
            · refine lz_iconst hx hb dL_law_494 (fun x_494 v_494 => ?_)
              refine lv_goto (tgt := 499) hx hb dL_law_495 (by decide) ?_
              refine lz_icmp_ne (tgt := 538) hx hb v_488 v_494 ⟨by omega, by omega⟩ dL_law_499 (by decide) (fun c_499 => ?_) (fun c_499 => ?_)
              · exfalso; omega
              · refine lv_iload hx hb dL_law_502 (lv_at hl 0 rfl) ?_
                refine lv_aload_n hx hb dL_law_504 rfl (lv_at hl 5 rfl) ?_
                refine lv_iload hx hb dL_law_505 (lv_at hl 1 rfl) ?_
                refine lz_iconst hx hb dL_law_507 (fun x_507 v_507 => ?_)
                refine cr_i (va_runV (As := [.int ee, .int x_507]) (rest := [.int x_477]) ⟨hx, hb, hml, hown, hts⟩ (k_X3_told_P l D cI cZ cJ cK _ ee x_507 ad Z cx e9 2 hC hI (hie.trans (congrArg iI (by omega))) (by omega) (v_507.trans (congrArg iI (by omega))) (by omega)) (cwV 2 hts (gV qw369 qw370 qw371 qw10 qw372) rfl rfl rfl (by decide +kernel) ⟨Nat.le_of_ble_eq_true rfl, Nat.le_of_ble_eq_true rfl⟩) (pvP (ci := 3) (r := (RX3, TX3, 5)) (q0 := 2) (wr := ([(ql, .inl (cI, 2, .inl gl)), (qs, .inl (cI, (aN Z), .inl g0))] ++ SP)) hP hD hK hT hZ hS (pm_3 _ _ _) rfl rfl) rfl rfl hl.1 rfl (lv_room (Nat.le_of_ble_eq_true rfl)) dL_law_508 ⟨(by show cells ≤ 600130; omega), (by show slots ≤ 7301080; omega)⟩) hS hP (fun x_508 H locs hw_508 hP hS => ?_)
                replace hw_508 : (x_508 = toV (aH Z e9) (aV Z e9) (bkA (aV Z e9) (aL Z 0) (aL Z 1) (aH Z e9)) (aM Z e9) (aK Z e9) 2) := hw_508
                have v_508 := hw_508
                have hv508 : x_508 = iI (bkA (aV Z e9) (aL Z 0) (aL Z 1) (aH Z e9)) := v_508.trans ((toV_n.2.2.1 rfl))
                refine lz_if_ge (tgt := 518) hx hb hv508 (by omega) dL_law_511 (by decide) (fun c_511 => ?_) (fun c_511 => ?_)
                · exfalso; omega
                · refine lz_iconst hx hb dL_law_514 (fun x_514 v_514 => ?_)
                  refine lv_goto (tgt := 519) hx hb dL_law_515 (by decide) ?_
                  refine lz_icmp_ne (tgt := 538) hx hb v_477 v_514 ⟨by omega, by omega⟩ dL_law_519 (by decide) (fun c_519 => ?_) (fun c_519 => ?_)
                  · exfalso; omega
                  · refine lv_aload_n hx hb dL_law_522 rfl (lv_at hl 5 rfl) ?_
                    refine lv_iload hx hb dL_law_523 (lv_at hl 1 rfl) ?_
                    refine lz_iconst hx hb dL_law_525 (fun x_525 v_525 => ?_)
                    refine cr_i (va_runV (As := [.int ee, .int x_525]) (rest := []) ⟨hx, hb, hml, hown, hts⟩ (k_X3_told_P l D cI cZ cJ cK _ ee x_525 ad Z cx e9 4 hC hI (hie.trans (congrArg iI (by omega))) (by omega) (v_525.trans (congrArg iI (by omega))) (by omega)) (cwV 2 hts (gV qw369 qw370 qw371 qw10 qw372) rfl rfl rfl (by decide +kernel) ⟨Nat.le_of_ble_eq_true rfl, Nat.le_of_ble_eq_true rfl⟩) (pvP (ci := 3) (r := (RX3, TX3, 5)) (q0 := 2) (wr := ([(ql, .inl (cI, 2, .inl gl)), (qs, .inl (cI, (aN Z), .inl g0))] ++ SP)) hP hD hK hT hZ hS (pm_3 _ _ _) rfl rfl) rfl rfl hl.1 rfl (lv_room (Nat.le_of_ble_eq_true rfl)) dL_law_526 ⟨(by show cells ≤ 600130; omega), (by show slots ≤ 7301080; omega)⟩) hS hP (fun x_526 H locs hw_526 hP hS => ?_)
                    replace hw_526 : (x_526 = toV (aH Z e9) (aV Z e9) (bkA (aV Z e9) (aL Z 0) (aL Z 1) (aH Z e9)) (aM Z e9) (aK Z e9) 4) := hw_526
                    have v_526 := hw_526
                    have hv526 : x_526 = iI (aK Z e9) := v_526.trans ((toV_n.2.2.2.2 rfl))
                    refine lz_iconst hx hb dL_law_529 (fun x_529 v_529 => ?_)
                    refine lz_icmp_ne (tgt := 540) hx hb hv526 v_529 ⟨by omega, by omega⟩ dL_law_530 (by decide) (fun c_530 => ?_) (fun c_530 => ?_)
                    · refine lv_iload hx hb dL_law_540 (lv_at hl 3 rfl) ?_
                      refine lv_aload_n hx hb dL_law_542 rfl (lv_at hl 5 rfl) ?_
                      refine lv_iload hx hb dL_law_543 (lv_at hl 1 rfl) ?_
                      refine lz_iconst hx hb dL_law_545 (fun x_545 v_545 => ?_)
                      refine cr_i (va_runV (As := [.int ee, .int x_545]) (rest := [.int rr]) ⟨hx, hb, hml, hown, hts⟩ (k_X3_told_P l D cI cZ cJ cK _ ee x_545 ad Z cx e9 4 hC hI (hie.trans (congrArg iI (by omega))) (by omega) (v_545.trans (congrArg iI (by omega))) (by omega)) (cwV 2 hts (gV qw369 qw370 qw371 qw10 qw372) rfl rfl rfl (by decide +kernel) ⟨Nat.le_of_ble_eq_true rfl, Nat.le_of_ble_eq_true rfl⟩) (pvP (ci := 3) (r := (RX3, TX3, 5)) (q0 := 2) (wr := ([(ql, .inl (cI, 2, .inl gl)), (qs, .inl (cI, (aN Z), .inl g0))] ++ SP)) hP hD hK hT hZ hS (pm_3 _ _ _) rfl rfl) rfl rfl hl.1 rfl (lv_room (Nat.le_of_ble_eq_true rfl)) dL_law_546 ⟨(by show cells ≤ 600130; omega), (by show slots ≤ 7301080; omega)⟩) hS hP (fun x_546 H locs hw_546 hP hS => ?_)
                      replace hw_546 : (x_546 = toV (aH Z e9) (aV Z e9) (bkA (aV Z e9) (aL Z 0) (aL Z 1) (aH Z e9)) (aM Z e9) (aK Z e9) 4) := hw_546
                      have v_546 := hw_546
                      have hv546 : x_546 = iI (aK Z e9) := v_546.trans ((toV_n.2.2.2.2 rfl))
                      refine lz_iadd hx hb hrr hv546 dL_law_549 (fun x_549 v_549 => ?_)
                      refine lv_istore (lv' := [(10, .int x_549), (13, .int x_477), (12, .int ee), (11, .int mm), (0, .ref bs), (1, .ref (ad 0)), (2, .ref t1), (3, .int tt), (4, .int xx), (7, .int nn), (8, .ref qs), (9, .int li)]) hx hb dL_law_550 hl (by decide) rfl (fun ls hl => ?_)
                      refine lv_iload hx hb dL_law_552 (lv_at hl 3 rfl) ?_
                      refine lv_aload_n hx hb dL_law_554 rfl (lv_at hl 5 rfl) ?_
                      refine lv_iload hx hb dL_law_555 (lv_at hl 2 rfl) ?_
                      refine lz_iconst hx hb dL_law_557 (fun x_557 v_557 => ?_)
                      refine cr_i (va_runV (As := [.int ee, .int x_557]) (rest := [.int mm]) ⟨hx, hb, hml, hown, hts⟩ (k_X3_told_P l D cI cZ cJ cK _ ee x_557 ad Z cx e9 3 hC hI (hie.trans (congrArg iI (by omega))) (by omega) (v_557.trans (congrArg iI (by omega))) (by omega)) (cwV 2 hts (gV qw369 qw370 qw371 qw10 qw372) rfl rfl rfl (by decide +kernel) ⟨Nat.le_of_ble_eq_true rfl, Nat.le_of_ble_eq_true rfl⟩) (pvP (ci := 3) (r := (RX3, TX3, 5)) (q0 := 2) (wr := ([(ql, .inl (cI, 2, .inl gl)), (qs, .inl (cI, (aN Z), .inl g0))] ++ SP)) hP hD hK hT hZ hS (pm_3 _ _ _) rfl rfl) rfl rfl hl.1 rfl (lv_room (Nat.le_of_ble_eq_true rfl)) dL_law_558 ⟨(by show cells ≤ 600130; omega), (by show slots ≤ 7301080; omega)⟩) hS hP (fun x_558 H locs hw_558 hP hS => ?_)
                      replace hw_558 : (x_558 = toV (aH Z e9) (aV Z e9) (bkA (aV Z e9) (aL Z 0) (aL Z 1) (aH Z e9)) (aM Z e9) (aK Z e9) 3) := hw_558
                      have v_558 := hw_558
                      have hv558 : x_558 = aM Z e9 := v_558.trans (toV_n.2.2.2.1 rfl)
                      refine lv_iadd hx hb dL_law_561 ?_
                      refine lv_topi (fun x_561 e_561 => ?_)
                      refine lv_istore (lv' := [(11, .int x_561), (10, .int x_549), (13, .int x_477), (12, .int ee), (0, .ref bs), (1, .ref (ad 0)), (2, .ref t1), (3, .int tt), (4, .int xx), (7, .int nn), (8, .ref qs), (9, .int li)]) hx hb dL_law_562 hl (by decide) rfl (fun ls hl => ?_)
                      refine lz_iinc (lv2 := fun z => [(12, .int z), (11, .int x_561), (10, .int x_549), (13, .int x_477), (0, .ref bs), (1, .ref (ad 0)), (2, .ref t1), (3, .int tt), (4, .int xx), (7, .int nn), (8, .ref qs), (9, .int li)]) hx hb dL_law_564 hl (k := 3) rfl hie (by decide) (fun _ => rfl) (fun x_564 ls v_564 hl => ?_)
                      refine lv_goto (tgt := 460) hx hb dL_law_567 (by decide) ?_
                      exact ih460 (e9 + 1) x_564 x_549 x_561 _ _ _ (by omega) (v_564.trans (congrArg iI (by omega))) (by omega) (v_549) (by rw [e_561, hmm, hv558]; rfl) hP hD hS (lv_sub hl [0, 1, 2, 4, 5, 6, 7, 8, 9, 10, 11] rfl)
                    · refine lv_iload hx hb dL_law_533 (lv_at hl 0 rfl) ?_
                      refine lz_if_ne (tgt := 540) hx hb v_477 (by omega) dL_law_535 (by decide) (fun c_535 => ?_) (fun c_535 => ?_)
                      · refine lv_iload hx hb dL_law_540 (lv_at hl 3 rfl) ?_
                        refine lv_aload_n hx hb dL_law_542 rfl (lv_at hl 5 rfl) ?_
                        refine lv_iload hx hb dL_law_543 (lv_at hl 1 rfl) ?_
                        refine lz_iconst hx hb dL_law_545 (fun x_545 v_545 => ?_)
                        refine cr_i (va_runV (As := [.int ee, .int x_545]) (rest := [.int rr]) ⟨hx, hb, hml, hown, hts⟩ (k_X3_told_P l D cI cZ cJ cK _ ee x_545 ad Z cx e9 4 hC hI (hie.trans (congrArg iI (by omega))) (by omega) (v_545.trans (congrArg iI (by omega))) (by omega)) (cwV 2 hts (gV qw369 qw370 qw371 qw10 qw372) rfl rfl rfl (by decide +kernel) ⟨Nat.le_of_ble_eq_true rfl, Nat.le_of_ble_eq_true rfl⟩) (pvP (ci := 3) (r := (RX3, TX3, 5)) (q0 := 2) (wr := ([(ql, .inl (cI, 2, .inl gl)), (qs, .inl (cI, (aN Z), .inl g0))] ++ SP)) hP hD hK hT hZ hS (pm_3 _ _ _) rfl rfl) rfl rfl hl.1 rfl (lv_room (Nat.le_of_ble_eq_true rfl)) dL_law_546 ⟨(by show cells ≤ 600130; omega), (by show slots ≤ 7301080; omega)⟩) hS hP (fun x_546 H locs hw_546 hP hS => ?_)
                        replace hw_546 : (x_546 = toV (aH Z e9) (aV Z e9) (bkA (aV Z e9) (aL Z 0) (aL Z 1) (aH Z e9)) (aM Z e9) (aK Z e9) 4) := hw_546
                        have v_546 := hw_546
                        have hv546 : x_546 = iI (aK Z e9) := v_546.trans ((toV_n.2.2.2.2 rfl))
                        refine lz_iadd hx hb hrr hv546 dL_law_549 (fun x_549 v_549 => ?_)
                        refine lv_istore (lv' := [(10, .int x_549), (13, .int x_477), (12, .int ee), (11, .int mm), (0, .ref bs), (1, .ref (ad 0)), (2, .ref t1), (3, .int tt), (4, .int xx), (7, .int nn), (8, .ref qs), (9, .int li)]) hx hb dL_law_550 hl (by decide) rfl (fun ls hl => ?_)
                        refine lv_iload hx hb dL_law_552 (lv_at hl 3 rfl) ?_
                        refine lv_aload_n hx hb dL_law_554 rfl (lv_at hl 5 rfl) ?_
                        refine lv_iload hx hb dL_law_555 (lv_at hl 2 rfl) ?_
                        refine lz_iconst hx hb dL_law_557 (fun x_557 v_557 => ?_)
                        refine cr_i (va_runV (As := [.int ee, .int x_557]) (rest := [.int mm]) ⟨hx, hb, hml, hown, hts⟩ (k_X3_told_P l D cI cZ cJ cK _ ee x_557 ad Z cx e9 3 hC hI (hie.trans (congrArg iI (by omega))) (by omega) (v_557.trans (congrArg iI (by omega))) (by omega)) (cwV 2 hts (gV qw369 qw370 qw371 qw10 qw372) rfl rfl rfl (by decide +kernel) ⟨Nat.le_of_ble_eq_true rfl, Nat.le_of_ble_eq_true rfl⟩) (pvP (ci := 3) (r := (RX3, TX3, 5)) (q0 := 2) (wr := ([(ql, .inl (cI, 2, .inl gl)), (qs, .inl (cI, (aN Z), .inl g0))] ++ SP)) hP hD hK hT hZ hS (pm_3 _ _ _) rfl rfl) rfl rfl hl.1 rfl (lv_room (Nat.le_of_ble_eq_true rfl)) dL_law_558 ⟨(by show cells ≤ 600130; omega), (by show slots ≤ 7301080; omega)⟩) hS hP (fun x_558 H locs hw_558 hP hS => ?_)
                        replace hw_558 : (x_558 = toV (aH Z e9) (aV Z e9) (bkA (aV Z e9) (aL Z 0) (aL Z 1) (aH Z e9)) (aM Z e9) (aK Z e9) 3) := hw_558
                        have v_558 := hw_558
                        have hv558 : x_558 = aM Z e9 := v_558.trans (toV_n.2.2.2.1 rfl)
                        refine lv_iadd hx hb dL_law_561 ?_
                        refine lv_topi (fun x_561 e_561 => ?_)
                        refine lv_istore (lv' := [(11, .int x_561), (10, .int x_549), (13, .int x_477), (12, .int ee), (0, .ref bs), (1, .ref (ad 0)), (2, .ref t1), (3, .int tt), (4, .int xx), (7, .int nn), (8, .ref qs), (9, .int li)]) hx hb dL_law_562 hl (by decide) rfl (fun ls hl => ?_)
                        refine lz_iinc (lv2 := fun z => [(12, .int z), (11, .int x_561), (10, .int x_549), (13, .int x_477), (0, .ref bs), (1, .ref (ad 0)), (2, .ref t1), (3, .int tt), (4, .int xx), (7, .int nn), (8, .ref qs), (9, .int li)]) hx hb dL_law_564 hl (k := 3) rfl hie (by decide) (fun _ => rfl) (fun x_564 ls v_564 hl => ?_)
                        refine lv_goto (tgt := 460) hx hb dL_law_567 (by decide) ?_
                        exact ih460 (e9 + 1) x_564 x_549 x_561 _ _ _ (by omega) (v_564.trans (congrArg iI (by omega))) (by omega) (v_549) (by rw [e_561, hmm, hv558]; rfl) hP hD hS (lv_sub hl [0, 1, 2, 4, 5, 6, 7, 8, 9, 10, 11] rfl)
                      · exfalso; omega
        · have hav9 := (hI.2.1 e9 (by omega)).2
          have s9 := (sn_2 hI (show e9 < aN Z by omega)).2 hav
          have b9 := (bkA_neg (aL Z 0) (aL Z 1) (aH Z e9) hav9).2 hav
          have hk0 := hI.2.2.2.2 e9 (by omega) (Or.inr hav)
          have brg := bkA_rg hI (show e9 < aN Z by omega)
          have hkr := hI.2.2.2.1 e9 (by omega)
          have hkg := sumK_rg e9 (fun i hi => hI.2.2.2.1 i (by omega))
          refine lv_aload_n hx hb dL_law_467 rfl (lv_at hl 4 rfl) ?_
          refine lv_iload hx hb dL_law_468 (lv_at hl 0 rfl) ?_
          refine lz_iconst hx hb dL_law_470 (fun x_470 v_470 => ?_)
          refine cr_i (va_runV (As := [.int ee, .int x_470]) (rest := []) ⟨hx, hb, hml, hown, hts⟩ (k_X3_told_P l D cI cZ cJ cK _ ee x_470 ad Z cx e9 1 hC hI (hie.trans (congrArg iI (by omega))) (by omega) (v_470.trans (congrArg iI (by omega))) (by omega)) (cwV 2 hts (gV qw369 qw370 qw371 qw10 qw372) rfl rfl rfl (by decide +kernel) ⟨Nat.le_of_ble_eq_true rfl, Nat.le_of_ble_eq_true rfl⟩) (pvP (ci := 3) (r := (RX3, TX3, 5)) (q0 := 2) (wr := ([(ql, .inl (cI, 2, .inl gl)), (qs, .inl (cI, (aN Z), .inl g0))] ++ SP)) hP hD hK hT hZ hS (pm_3 _ _ _) rfl rfl) rfl rfl hl.1 rfl (lv_room (Nat.le_of_ble_eq_true rfl)) dL_law_471 ⟨(by show cells ≤ 600130; omega), (by show slots ≤ 7301080; omega)⟩) hS hP (fun x_471 H locs hw_471 hP hS => ?_)
          replace hw_471 : (x_471 = toV (aH Z e9) (aV Z e9) (bkA (aV Z e9) (aL Z 0) (aL Z 1) (aH Z e9)) (aM Z e9) (aK Z e9) 1) := hw_471
          have v_471 := hw_471
          have hv471 : x_471 = iI (aV Z e9) := v_471.trans ((toV_n.2.1 rfl))
          refine lz_if_ge (tgt := 481) hx hb hv471 (by omega) dL_law_474 (by decide) (fun c_474 => ?_) (fun c_474 => ?_)
          · refine lz_iconst hx hb dL_law_481 (fun x_481 v_481 => ?_)
            refine lv_istore (lv' := [(13, .int x_481), (12, .int ee), (11, .int mm), (10, .int rr), (0, .ref bs), (1, .ref (ad 0)), (2, .ref t1), (3, .int tt), (4, .int xx), (7, .int nn), (8, .ref qs), (9, .int li)]) hx hb dL_law_482 hl (by decide) rfl (fun ls hl => ?_)
            refine lv_aload hx hb dL_law_484 (lv_at hl 10 rfl) ?_
            refine lv_iload hx hb dL_law_486 (lv_at hl 1 rfl) ?_
            refine lz_iald hx hb hK hP 1 0 rfl rfl hie (e9) (by omega) (by omega) (by omega) dL_law_488 (fun x_488 e_488 => ?_)
            have v_488 : x_488 = iI (sn (aV Z) 2 [] e9) := e_488.trans (hg _ (by omega))
            refine lv_iload hx hb dL_law_489 (lv_at hl 0 rfl) ?_
            refine lz_if_eq (tgt := 498) hx hb v_481 (by omega) dL_law_491 (by decide) (fun c_491 => ?_) (fun c_491 => ?_)
            · refine lz_iconst hx hb dL_law_498 (fun x_498 v_498 => ?_)
              refine lz_icmp_ne (tgt := 538) hx hb v_488 v_498 ⟨by omega, by omega⟩ dL_law_499 (by decide) (fun c_499 => ?_) (fun c_499 => ?_)
              · exfalso; omega
              · refine lv_iload hx hb dL_law_502 (lv_at hl 0 rfl) ?_
                refine lv_aload_n hx hb dL_law_504 rfl (lv_at hl 5 rfl) ?_
                refine lv_iload hx hb dL_law_505 (lv_at hl 1 rfl) ?_
                refine lz_iconst hx hb dL_law_507 (fun x_507 v_507 => ?_)
                refine cr_i (va_runV (As := [.int ee, .int x_507]) (rest := [.int x_481]) ⟨hx, hb, hml, hown, hts⟩ (k_X3_told_P l D cI cZ cJ cK _ ee x_507 ad Z cx e9 2 hC hI (hie.trans (congrArg iI (by omega))) (by omega) (v_507.trans (congrArg iI (by omega))) (by omega)) (cwV 2 hts (gV qw369 qw370 qw371 qw10 qw372) rfl rfl rfl (by decide +kernel) ⟨Nat.le_of_ble_eq_true rfl, Nat.le_of_ble_eq_true rfl⟩) (pvP (ci := 3) (r := (RX3, TX3, 5)) (q0 := 2) (wr := ([(ql, .inl (cI, 2, .inl gl)), (qs, .inl (cI, (aN Z), .inl g0))] ++ SP)) hP hD hK hT hZ hS (pm_3 _ _ _) rfl rfl) rfl rfl hl.1 rfl (lv_room (Nat.le_of_ble_eq_true rfl)) dL_law_508 ⟨(by show cells ≤ 600130; omega), (by show slots ≤ 7301080; omega)⟩) hS hP (fun x_508 H locs hw_508 hP hS => ?_)
                replace hw_508 : (x_508 = toV (aH Z e9) (aV Z e9) (bkA (aV Z e9) (aL Z 0) (aL Z 1) (aH Z e9)) (aM Z e9) (aK Z e9) 2) := hw_508
                have v_508 := hw_508
                have hv508 : x_508 = iI (bkA (aV Z e9) (aL Z 0) (aL Z 1) (aH Z e9)) := v_508.trans ((toV_n.2.2.1 rfl))
                refine lz_if_ge (tgt := 518) hx hb hv508 (by omega) dL_law_511 (by decide) (fun c_511 => ?_) (fun c_511 => ?_)
                · refine lz_iconst hx hb dL_law_518 (fun x_518 v_518 => ?_)
                  refine lz_icmp_ne (tgt := 538) hx hb v_481 v_518 ⟨by omega, by omega⟩ dL_law_519 (by decide) (fun c_519 => ?_) (fun c_519 => ?_)
                  · exfalso; omega
                  · refine lv_aload_n hx hb dL_law_522 rfl (lv_at hl 5 rfl) ?_
                    refine lv_iload hx hb dL_law_523 (lv_at hl 1 rfl) ?_
                    refine lz_iconst hx hb dL_law_525 (fun x_525 v_525 => ?_)
                    refine cr_i (va_runV (As := [.int ee, .int x_525]) (rest := []) ⟨hx, hb, hml, hown, hts⟩ (k_X3_told_P l D cI cZ cJ cK _ ee x_525 ad Z cx e9 4 hC hI (hie.trans (congrArg iI (by omega))) (by omega) (v_525.trans (congrArg iI (by omega))) (by omega)) (cwV 2 hts (gV qw369 qw370 qw371 qw10 qw372) rfl rfl rfl (by decide +kernel) ⟨Nat.le_of_ble_eq_true rfl, Nat.le_of_ble_eq_true rfl⟩) (pvP (ci := 3) (r := (RX3, TX3, 5)) (q0 := 2) (wr := ([(ql, .inl (cI, 2, .inl gl)), (qs, .inl (cI, (aN Z), .inl g0))] ++ SP)) hP hD hK hT hZ hS (pm_3 _ _ _) rfl rfl) rfl rfl hl.1 rfl (lv_room (Nat.le_of_ble_eq_true rfl)) dL_law_526 ⟨(by show cells ≤ 600130; omega), (by show slots ≤ 7301080; omega)⟩) hS hP (fun x_526 H locs hw_526 hP hS => ?_)
                    replace hw_526 : (x_526 = toV (aH Z e9) (aV Z e9) (bkA (aV Z e9) (aL Z 0) (aL Z 1) (aH Z e9)) (aM Z e9) (aK Z e9) 4) := hw_526
                    have v_526 := hw_526
                    have hv526 : x_526 = iI (aK Z e9) := v_526.trans ((toV_n.2.2.2.2 rfl))
                    refine lz_iconst hx hb dL_law_529 (fun x_529 v_529 => ?_)
                    refine lz_icmp_ne (tgt := 540) hx hb hv526 v_529 ⟨by omega, by omega⟩ dL_law_530 (by decide) (fun c_530 => ?_) (fun c_530 => ?_)
                    · refine lv_iload hx hb dL_law_540 (lv_at hl 3 rfl) ?_
                      refine lv_aload_n hx hb dL_law_542 rfl (lv_at hl 5 rfl) ?_
                      refine lv_iload hx hb dL_law_543 (lv_at hl 1 rfl) ?_
                      refine lz_iconst hx hb dL_law_545 (fun x_545 v_545 => ?_)
                      refine cr_i (va_runV (As := [.int ee, .int x_545]) (rest := [.int rr]) ⟨hx, hb, hml, hown, hts⟩ (k_X3_told_P l D cI cZ cJ cK _ ee x_545 ad Z cx e9 4 hC hI (hie.trans (congrArg iI (by omega))) (by omega) (v_545.trans (congrArg iI (by omega))) (by omega)) (cwV 2 hts (gV qw369 qw370 qw371 qw10 qw372) rfl rfl rfl (by decide +kernel) ⟨Nat.le_of_ble_eq_true rfl, Nat.le_of_ble_eq_true rfl⟩) (pvP (ci := 3) (r := (RX3, TX3, 5)) (q0 := 2) (wr := ([(ql, .inl (cI, 2, .inl gl)), (qs, .inl (cI, (aN Z), .inl g0))] ++ SP)) hP hD hK hT hZ hS (pm_3 _ _ _) rfl rfl) rfl rfl hl.1 rfl (lv_room (Nat.le_of_ble_eq_true rfl)) dL_law_546 ⟨(by show cells ≤ 600130; omega), (by show slots ≤ 7301080; omega)⟩) hS hP (fun x_546 H locs hw_546 hP hS => ?_)
                      replace hw_546 : (x_546 = toV (aH Z e9) (aV Z e9) (bkA (aV Z e9) (aL Z 0) (aL Z 1) (aH Z e9)) (aM Z e9) (aK Z e9) 4) := hw_546
                      have v_546 := hw_546
                      have hv546 : x_546 = iI (aK Z e9) := v_546.trans ((toV_n.2.2.2.2 rfl))
                      refine lz_iadd hx hb hrr hv546 dL_law_549 (fun x_549 v_549 => ?_)
                      refine lv_istore (lv' := [(10, .int x_549), (13, .int x_481), (12, .int ee), (11, .int mm), (0, .ref bs), (1, .ref (ad 0)), (2, .ref t1), (3, .int tt), (4, .int xx), (7, .int nn), (8, .ref qs), (9, .int li)]) hx hb dL_law_550 hl (by decide) rfl (fun ls hl => ?_)
                      refine lv_iload hx hb dL_law_552 (lv_at hl 3 rfl) ?_
                      refine lv_aload_n hx hb dL_law_554 rfl (lv_at hl 5 rfl) ?_
                      refine lv_iload hx hb dL_law_555 (lv_at hl 2 rfl) ?_
                      refine lz_iconst hx hb dL_law_557 (fun x_557 v_557 => ?_)
                      refine cr_i (va_runV (As := [.int ee, .int x_557]) (rest := [.int mm]) ⟨hx, hb, hml, hown, hts⟩ (k_X3_told_P l D cI cZ cJ cK _ ee x_557 ad Z cx e9 3 hC hI (hie.trans (congrArg iI (by omega))) (by omega) (v_557.trans (congrArg iI (by omega))) (by omega)) (cwV 2 hts (gV qw369 qw370 qw371 qw10 qw372) rfl rfl rfl (by decide +kernel) ⟨Nat.le_of_ble_eq_true rfl, Nat.le_of_ble_eq_true rfl⟩) (pvP (ci := 3) (r := (RX3, TX3, 5)) (q0 := 2) (wr := ([(ql, .inl (cI, 2, .inl gl)), (qs, .inl (cI, (aN Z), .inl g0))] ++ SP)) hP hD hK hT hZ hS (pm_3 _ _ _) rfl rfl) rfl rfl hl.1 rfl (lv_room (Nat.le_of_ble_eq_true rfl)) dL_law_558 ⟨(by show cells ≤ 600130; omega), (by show slots ≤ 7301080; omega)⟩) hS hP (fun x_558 H locs hw_558 hP hS => ?_)
                      replace hw_558 : (x_558 = toV (aH Z e9) (aV Z e9) (bkA (aV Z e9) (aL Z 0) (aL Z 1) (aH Z e9)) (aM Z e9) (aK Z e9) 3) := hw_558
                      have v_558 := hw_558
                      have hv558 : x_558 = aM Z e9 := v_558.trans (toV_n.2.2.2.1 rfl)
                      refine lv_iadd hx hb dL_law_561 ?_
                      refine lv_topi (fun x_561 e_561 => ?_)
                      refine lv_istore (lv' := [(11, .int x_561), (10, .int x_549), (13, .int x_481), (12, .int ee), (0, .ref bs), (1, .ref (ad 0)), (2, .ref t1), (3, .int tt), (4, .int xx), (7, .int nn), (8, .ref qs), (9, .int li)]) hx hb dL_law_562 hl (by decide) rfl (fun ls hl => ?_)
                      refine lz_iinc (lv2 := fun z => [(12, .int z), (11, .int x_561), (10, .int x_549), (13, .int x_481), (0, .ref bs), (1, .ref (ad 0)), (2, .ref t1), (3, .int tt), (4, .int xx), (7, .int nn), (8, .ref qs), (9, .int li)]) hx hb dL_law_564 hl (k := 3) rfl hie (by decide) (fun _ => rfl) (fun x_564 ls v_564 hl => ?_)
                      refine lv_goto (tgt := 460) hx hb dL_law_567 (by decide) ?_
                      exact ih460 (e9 + 1) x_564 x_549 x_561 _ _ _ (by omega) (v_564.trans (congrArg iI (by omega))) (by omega) (v_549) (by rw [e_561, hmm, hv558]; rfl) hP hD hS (lv_sub hl [0, 1, 2, 4, 5, 6, 7, 8, 9, 10, 11] rfl)
                    · exfalso; omega
                · exfalso; omega
            · exfalso; omega
          · exfalso; omega
  exact key460 _ 0 x_457 x_451 x_454 _ _ _ (Nat.lt_succ_self _) (v_457.trans (congrArg iI (by omega))) (by omega) (v_451) (v_454) hP hD hS (lv_sub hl [0, 1, 2, 3, 4, 5, 6, 7, 8, 9, 10] rfl)
