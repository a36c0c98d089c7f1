set_option maxHeartbeats 4000000 in
set_option maxRecDepth 100000 in
theorem t_s1 {p : Program} {e : Env} {s : State} {m : MethodId} {args : Array Value} {below : List Frame} {meth : Method} {c : Code} {Q : State → Prop} {A : Nat → Prop} (l : Launch) (hl0 : l.stackTraces = false) (D : va_G) (cI cZ cJ cK : ClassId) (ad : Nat → Nat) (Z : va_AS) (cx : CX) (SP : va_W) (bs : Nat) (t1 : Nat) (tt : Int32) (xx : Int32) (ql : Nat) (qs : Nat) (gl : Nat → Int32) (g0 : Nat → Int32) (pp : Int32) (nn : Int32) (l0 : Int32) (a0 : Int32) (pv : Int) (lw0 : Nat → Nat) {H : Heap} {locs : List Loc} {ls : Array Slot} {cells slots : Nat}  (hx : p.tables.exec = Jvm.exec) (hb : c.code = cL_law) (hml : c.maxLocals = 22) (hown : s.vm.findClass RL = some m.cls) (hts : ∀ w ∈ lw_G, w.before args s = true) (hT : TW s) (hZ : ZW A s s.heap) (hK : va_K D vwCl (KT cI cZ cJ cK) s) (hA : ∀ q : Nat, s.heap.size ≤ q → A q) (hC : CStx Z cx) (hI : AI Z) (hPI : PI Z) (hlow : ∀ k, k < 2 → gl k = iI ↑(lw0 k)) (hlw4 : ∀ k, k < 2 → lw0 k < 1024) (hpp : pp = iI (pv)) (hpg : 0 ≤ pv ∧ pv ≤ 1) (hpv : pv = 0 → ∀ k, k < 2 → lw0 k ≤ aL Z k) (hnn : nn = iI ↑(aN Z)) (hl9 : l0 = iI (0)) (ha9 : a0 = iI (0)) (hg0 : ∀ e, e < aN Z → g0 e = iI (0)) (hP : va_P D vwCl ([(ql, .inl (cI, 2, .inl gl)), (qs, .inl (cI, (aN Z), .inl g0))] ++ ((clsW cI cZ ad cx) ++ SP)) H) (hD : va_D A ([(ql, .inl (cI, 2, .inl gl)), (qs, .inl (cI, (aN Z), .inl g0))] ++ ((clsW cI cZ ad cx) ++ SP))) (hS : va_S A s.heap H locs) (hl : lv_has ls 22 [(0, .ref bs), (1, .ref (ad 0)), (2, .ref t1), (3, .int tt), (4, .int xx), (5, .ref ql), (6, .int pp), (7, .int nn), (8, .ref qs), (9, .int l0), (10, .int a0)]) (hcc : cells + 160 ≤ 600130) (hss : slots + 960 ≤ 7301080) (kk : ∀ (li : Int32) (g : Nat → Int32) (H : Heap) (locs : List Loc) (ls : Array Slot), (li = iI ↑(lH Z 2)) → (∀ e, e < aN Z → g e = iI (sn (aV Z) 2 [] e)) → va_P D vwCl ([(ql, .inl (cI, 2, .inl gl)), (qs, .inl (cI, (aN Z), .inl g))] ++ ((clsW cI cZ ad cx) ++ SP)) H → va_D A ([(ql, .inl (cI, 2, .inl gl)), (qs, .inl (cI, (aN Z), .inl g))] ++ ((clsW cI cZ ad cx) ++ SP)) → va_S A s.heap H locs → lv_has ls 22 [(0, .ref bs), (1, .ref (ad 0)), (2, .ref t1), (3, .int tt), (4, .int xx), (7, .int nn), (8, .ref qs), (9, .int li)] → W p l e room_1 s m args below meth c H locs (cells + 160) (slots + 960) Q (F0 m 451 ls [])) : W p l e room_1 s m args below meth c H locs cells slots Q (F0 m 122 ls []) := by
  have m40 := hI.1
  have key122 : ∀ (fu : Nat) (a9 : Nat) (aa : Int32) (li : Int32) (g : Nat → Int32) (H : Heap) (locs : List Loc) (ls : Array Slot), 3 - a9 < fu → (aa = iI (↑a9)) → (a9 ≤ 2) → (li = iI (↑(lH Z a9))) → (∀ e, e < aN Z → g e = iI (sn (aV Z) a9 [] e)) → va_P D vwCl ([(ql, .inl (cI, 2, .inl gl)), (qs, .inl (cI, (aN Z), .inl g))] ++ ((clsW cI cZ ad cx) ++ SP)) H → va_D A ([(ql, .inl (cI, 2, .inl gl)), (qs, .inl (cI, (aN Z), .inl g))] ++ ((clsW cI cZ ad cx) ++ SP)) → va_S A s.heap H locs → lv_has ls 22 [(0, .ref bs), (1, .ref (ad 0)), (2, .ref t1), (3, .int tt), (4, .int xx), (5, .ref ql), (6, .int pp), (7, .int nn), (8, .ref qs), (9, .int li), (10, .int aa)] → W p l e room_1 s m args below meth c H locs (cells + 80 * a9) (slots + 480 * a9) Q (F0 m 122 ls []) := by
    intro fu
    induction fu with
    | zero => intros; omega
    | succ fu ih122 =>
      intro a9 aa li g H locs ls hfu hia hla hli hg hP hD hS hl
      refine lv_iload hx hb dL_law_122 (lv_at hl 10 rfl) ?_
      refine lz_iconst hx hb dL_law_124 (fun x_124 v_124 => ?_)
      refine lz_icmp_ge (tgt := 451) hx hb hia v_124 ⟨by omega, by omega⟩ dL_law_125 (by decide) (fun c_125 => ?_) (fun c_125 => ?_)
      · have ha2 : a9 = 2 := by omega
        subst ha2
        refine W.widen (k := cells + 160) (n := slots + 960) (by omega) (by omega) ?_
        exact kk li g _ _ _ (hli) (hg) hP hD hS (lv_sub hl [0, 1, 2, 3, 4, 7, 8, 9] rfl)
      · have hh2 : a9 < 2 := by omega
        obtain ⟨m1, m2, m3⟩ := AI_len hI hh2
        have hl4 := (hI.2.2.1 a9 hh2).2.2
        have hlw9 := hlw4 a9 hh2
        refine lv_aload_n hx hb dL_law_128 rfl (lv_at hl 1 rfl) ?_
        refine lv_iload hx hb dL_law_129 (lv_at hl 10 rfl) ?_
        refine lz_iconst hx hb dL_law_131 (fun x_131 v_131 => ?_)
        refine cr_i (va_runV (As := [.int aa, .int x_131]) (rest := []) ⟨hx, hb, hml, hown, hts⟩ (k_X3_about_P l D cI cZ cJ cK _ aa x_131 ad Z cx a9 1 hC hI (hia.trans (congrArg iI (by omega))) (by omega) (v_131.trans (congrArg iI (by omega))) (by omega)) (cwV 2 hts (gV qw344 qw345 qw346 qw10 qw347) rfl rfl rfl (by decide +kernel) ⟨Nat.le_of_ble_eq_true rfl, Nat.le_of_ble_eq_true rfl⟩) (pvP (ci := 3) (r := (RX3, TX3, 5)) (q0 := 2) (wr := ([(ql, .inl (cI, 2, .inl gl)), (qs, .inl (cI, (aN Z), .inl g))] ++ SP)) hP hD hK hT hZ hS (pm_3 _ _ _) rfl rfl) rfl rfl hl.1 rfl (lv_room (Nat.le_of_ble_eq_true rfl)) dL_law_132 ⟨(by show (cells + 80 * a9) ≤ 600130; omega), (by show (slots + 480 * a9) ≤ 7301080; omega)⟩) hS hP (fun x_132 H locs hw_132 hP hS => ?_)
        replace hw_132 : (x_132 = abV (aL Z a9) (aH Z) (aR Z a9) (aG Z a9) 1) := hw_132
        have v_132 := hw_132
        have hv132 : x_132 = iI (↑(aL Z a9)) := v_132.trans (abV_n.2.1 rfl)
        refine lv_istore (lv' := [(11, .int x_132), (0, .ref bs), (1, .ref (ad 0)), (2, .ref t1), (3, .int tt), (4, .int xx), (5, .ref ql), (6, .int pp), (7, .int nn), (8, .ref qs), (9, .int li), (10, .int aa)]) hx hb dL_law_135 hl (by decide) rfl (fun ls hl => ?_)
        have J167 : ∀ (ls : Array Slot), lv_has ls 22 [(11, .int x_132), (0, .ref bs), (1, .ref (ad 0)), (2, .ref t1), (3, .int tt), (4, .int xx), (5, .ref ql), (6, .int pp), (7, .int nn), (8, .ref qs), (9, .int li), (10, .int aa)] → W p l e room_1 s m args below meth c H locs (cells + 80 * a9) (slots + 480 * a9) Q (F0 m 167 ls []) := by
          intro ls hl
          refine lz_iconst hx hb dL_law_167 (fun x_167 v_167 => ?_)
          refine lv_istore (lv' := [(12, .int x_167), (11, .int x_132), (0, .ref bs), (1, .ref (ad 0)), (2, .ref t1), (3, .int tt), (4, .int xx), (5, .ref ql), (6, .int pp), (7, .int nn), (8, .ref qs), (9, .int li), (10, .int aa)]) hx hb dL_law_168 hl (by decide) rfl (fun ls hl => ?_)
          refine lz_sipush hx hb (by decide) dL_law_170 (fun x_170 v_170 => ?_)
          refine lv_istore (lv' := [(13, .int x_170), (12, .int x_167), (11, .int x_132), (0, .ref bs), (1, .ref (ad 0)), (2, .ref t1), (3, .int tt), (4, .int xx), (5, .ref ql), (6, .int pp), (7, .int nn), (8, .ref qs), (9, .int li), (10, .int aa)]) hx hb dL_law_173 hl (by decide) rfl (fun ls hl => ?_)
          refine lz_iconst hx hb dL_law_175 (fun x_175 v_175 => ?_)
          refine lv_istore (lv' := [(14, .int x_175), (13, .int x_170), (12, .int x_167), (11, .int x_132), (0, .ref bs), (1, .ref (ad 0)), (2, .ref t1), (3, .int tt), (4, .int xx), (5, .ref ql), (6, .int pp), (7, .int nn), (8, .ref qs), (9, .int li), (10, .int aa)]) hx hb dL_law_176 hl (by decide) rfl (fun ls hl => ?_)
          refine lz_iconst hx hb dL_law_178 (fun x_178 v_178 => ?_)
          refine lv_istore (lv' := [(15, .int x_178), (14, .int x_175), (13, .int x_170), (12, .int x_167), (11, .int x_132), (0, .ref bs), (1, .ref (ad 0)), (2, .ref t1), (3, .int tt), (4, .int xx), (5, .ref ql), (6, .int pp), (7, .int nn), (8, .ref qs), (9, .int li), (10, .int aa)]) hx hb dL_law_179 hl (by decide) rfl (fun ls hl => ?_)
          have key181 : ∀ (fu : Nat) (b9 : Nat) (bb : Int32) (al : Int32) (le : Int32) (mo : Int32) (g1 : Nat → Int32) (H : Heap) (locs : List Loc) (ls : Array Slot), 12 - b9 < fu → (bb = iI (↑b9)) → (b9 ≤ 11) → (al = iI (↑(pS Z a9 b9))) → (le = iI (↑(minL (aH Z) ((aR Z a9).take (pS Z a9 b9))))) → (mo = iI (maxL (aH Z) ((aR Z a9).take (pS Z a9 b9)))) → (∀ e, e < aN Z → g1 e = iI (sn (aV Z) a9 ((aR Z a9).take (pS Z a9 b9)) e)) → va_P D vwCl ([(ql, .inl (cI, 2, .inl gl)), (qs, .inl (cI, (aN Z), .inl g1))] ++ ((clsW cI cZ ad cx) ++ SP)) H → va_D A ([(ql, .inl (cI, 2, .inl gl)), (qs, .inl (cI, (aN Z), .inl g1))] ++ ((clsW cI cZ ad cx) ++ SP)) → va_S A s.heap H locs → lv_has ls 22 [(15, .int bb), (14, .int mo), (13, .int le), (12, .int al), (11, .int x_132), (0, .ref bs), (1, .ref (ad 0)), (2, .ref t1), (3, .int tt), (4, .int xx), (5, .ref ql), (6, .int pp), (7, .int nn), (8, .ref qs), (9, .int li), (10, .int aa)] → W p l e room_1 s m args below meth c H locs (cells + (80 * a9 + 2 * pS Z a9 b9)) (slots + (480 * a9 + 12 * pS Z a9 b9)) Q (F0 m 181 ls []) := by
            intro fu
            induction fu with
            | zero => intros; omega
            | succ fu ih181 =>
              intro b9 bb al le mo g1 H locs ls hfu hib hlb hal hle hmo hg1 hP hD hS hl
              have hpl9 := pS_le Z a9 b9
              refine lv_iload hx hb dL_law_181 (lv_at hl 0 rfl) ?_
              refine lz_bipush hx hb (by decide) dL_law_183 (fun x_183 v_183 => ?_)
              refine lz_icmp_ge (tgt := 356) hx hb hib v_183 ⟨by omega, by omega⟩ dL_law_185 (by decide) (fun c_185 => ?_) (fun c_185 => ?_)
              · have hb11 : b9 = 11 := by omega
                have hp11 : pS Z a9 b9 = (aR Z a9).length := by
                  rw [hb11]
                  exact pS_11 hI hh2
                have hle9 : le = iI (↑(minL (aH Z) (aR Z a9))) := hle.trans (by rw [hp11, take_all (Nat.le_refl _)])
                have hmo9 : mo = iI (maxL (aH Z) (aR Z a9)) := hmo.trans (by rw [hp11, take_all (Nat.le_refl _)])
                have hmt9 := minL_top (aH Z) (aR Z a9)
                have hmr := maxL_in (Hh := aH Z) (L := aR Z a9) (fun x hx9 => (hI.2.1 x (m2 x hx9)).1)
                obtain ⟨hfn, hfn2⟩ := fst_neg (aL Z a9) (aH Z) (aR Z a9)
                obtain ⟨hfl, hfl2, hfl3⟩ := fst_lst hI hh2
                refine lv_iload hx hb dL_law_356 (lv_at hl 14 rfl) ?_
                refine lv_iload hx hb dL_law_358 (lv_at hl 3 rfl) ?_
                refine lz_iadd hx hb hli hal dL_law_360 (fun x_360 v_360 => ?_)
                refine lv_istore (lv' := [(9, .int x_360), (15, .int bb), (14, .int mo), (13, .int le), (12, .int al), (11, .int x_132), (0, .ref bs), (1, .ref (ad 0)), (2, .ref t1), (3, .int tt), (4, .int xx), (5, .ref ql), (6, .int pp), (7, .int nn), (8, .ref qs), (10, .int aa)]) hx hb dL_law_361 hl (by decide) rfl (fun ls hl => ?_)
                refine lv_aload_n hx hb dL_law_363 rfl (lv_at hl 7 rfl) ?_
                refine lv_iload hx hb dL_law_364 (lv_at hl 15 rfl) ?_
                refine lz_iconst hx hb dL_law_366 (fun x_366 v_366 => ?_)
                refine cr_i (va_runV (As := [.int aa, .int x_366]) (rest := []) ⟨hx, hb, hml, hown, hts⟩ (k_X3_about_P l D cI cZ cJ cK _ aa x_366 ad Z cx a9 0 hC hI (hia.trans (congrArg iI (by omega))) (by omega) (v_366.trans (congrArg iI (by omega))) (by omega)) (cwV 2 hts (gV qw344 qw345 qw346 qw10 qw347) rfl rfl rfl (by decide +kernel) ⟨Nat.le_of_ble_eq_true rfl, Nat.le_of_ble_eq_true rfl⟩) (pvP (ci := 3) (r := (RX3, TX3, 5)) (q0 := 2) (wr := ([(ql, .inl (cI, 2, .inl gl)), (qs, .inl (cI, (aN Z), .inl g1))] ++ SP)) hP hD hK hT hZ hS (pm_3 _ _ _) rfl rfl) rfl rfl hl.1 rfl (lv_room (Nat.le_of_ble_eq_true rfl)) dL_law_367 ⟨(by show (cells + (80 * a9 + 2 * pS Z a9 b9)) ≤ 600130; omega), (by show (slots + (480 * a9 + 12 * pS Z a9 b9)) ≤ 7301080; omega)⟩) hS hP (fun x_367 H locs hw_367 hP hS => ?_)
                replace hw_367 : (x_367 = abV (aL Z a9) (aH Z) (aR Z a9) (aG Z a9) 0) := hw_367
                have v_367 := hw_367
                have hv367 : x_367 = iI (↑(aR Z a9).length) := v_367.trans (abV_n.1 rfl)
                refine lv_iload hx hb dL_law_370 (lv_at hl 4 rfl) ?_
                refine lz_icmp_ne (tgt := 443) hx hb hv367 hal ⟨by omega, by omega⟩ dL_law_372 (by decide) (fun c_372 => ?_) (fun c_372 => ?_)
                · exfalso; omega
                · refine lv_aload_n hx hb dL_law_375 rfl (lv_at hl 7 rfl) ?_
                  refine lv_iload hx hb dL_law_376 (lv_at hl 15 rfl) ?_
                  refine cr_i (va_runV (As := [.int aa]) (rest := []) ⟨hx, hb, hml, hown, hts⟩ (k_X3_highest_P l D cI cZ cJ cK _ aa ad Z cx a9 hC hI (hia.trans (congrArg iI (by omega))) (by omega)) (cwV 1 hts (gV qw433 qw434 qw435 qw10 qw436) rfl rfl rfl (by decide +kernel) ⟨Nat.le_of_ble_eq_true rfl, Nat.le_of_ble_eq_true rfl⟩) (pvP (ci := 3) (r := (RX3, TX3, 5)) (q0 := 2) (wr := ([(ql, .inl (cI, 2, .inl gl)), (qs, .inl (cI, (aN Z), .inl g1))] ++ SP)) hP hD hK hT hZ hS (pm_3 _ _ _) rfl rfl) rfl rfl hl.1 rfl (lv_room (Nat.le_of_ble_eq_true rfl)) dL_law_378 ⟨(by show (cells + (80 * a9 + 2 * pS Z a9 b9)) ≤ 600130; omega), (by show (slots + (480 * a9 + 12 * pS Z a9 b9)) ≤ 7301080; omega)⟩) hS hP (fun x_378 H locs hw_378 hP hS => ?_)
                  replace hw_378 : (x_378 = iI (↑(minL (aH Z) (aR Z a9)))) := hw_378
                  have v_378 := hw_378
                  refine lv_iload hx hb dL_law_381 (lv_at hl 3 rfl) ?_
                  refine lz_icmp_ne (tgt := 443) hx hb v_378 hle9 ⟨by omega, by omega⟩ dL_law_383 (by decide) (fun c_383 => ?_) (fun c_383 => ?_)
                  · exfalso; omega
                  · refine lv_aload_n hx hb dL_law_386 rfl (lv_at hl 7 rfl) ?_
                    refine lv_iload hx hb dL_law_387 (lv_at hl 15 rfl) ?_
                    refine lz_iconst hx hb dL_law_389 (fun x_389 v_389 => ?_)
                    refine cr_i (va_runV (As := [.int aa, .int x_389]) (rest := []) ⟨hx, hb, hml, hown, hts⟩ (k_X3_about_P l D cI cZ cJ cK _ aa x_389 ad Z cx a9 5 hC hI (hia.trans (congrArg iI (by omega))) (by omega) (v_389.trans (congrArg iI (by omega))) (by omega)) (cwV 2 hts (gV qw344 qw345 qw346 qw10 qw347) rfl rfl rfl (by decide +kernel) ⟨Nat.le_of_ble_eq_true rfl, Nat.le_of_ble_eq_true rfl⟩) (pvP (ci := 3) (r := (RX3, TX3, 5)) (q0 := 2) (wr := ([(ql, .inl (cI, 2, .inl gl)), (qs, .inl (cI, (aN Z), .inl g1))] ++ SP)) hP hD hK hT hZ hS (pm_3 _ _ _) rfl rfl) rfl rfl hl.1 rfl (lv_room (Nat.le_of_ble_eq_true rfl)) dL_law_390 ⟨(by show (cells + (80 * a9 + 2 * pS Z a9 b9)) ≤ 600130; omega), (by show (slots + (480 * a9 + 12 * pS Z a9 b9)) ≤ 7301080; omega)⟩) hS hP (fun x_390 H locs hw_390 hP hS => ?_)
                    replace hw_390 : (x_390 = abV (aL Z a9) (aH Z) (aR Z a9) (aG Z a9) 5) := hw_390
                    have v_390 := hw_390
                    have hv390 : x_390 = iI (maxL (aH Z) (aR Z a9)) := v_390.trans (abV_n.2.2.2.2.2 rfl)
                    refine lv_iload hx hb dL_law_393 (lv_at hl 2 rfl) ?_
                    refine lz_icmp_ne (tgt := 443) hx hb hv390 hmo9 ⟨by omega, by omega⟩ dL_law_395 (by decide) (fun c_395 => ?_) (fun c_395 => ?_)
                    · exfalso; omega
                    · refine lv_aload_n hx hb dL_law_398 rfl (lv_at hl 7 rfl) ?_
                      refine lv_iload hx hb dL_law_399 (lv_at hl 15 rfl) ?_
                      refine lz_iconst hx hb dL_law_401 (fun x_401 v_401 => ?_)
                      refine cr_i (va_runV (As := [.int aa, .int x_401]) (rest := []) ⟨hx, hb, hml, hown, hts⟩ (k_X3_about_P l D cI cZ cJ cK _ aa x_401 ad Z cx a9 2 hC hI (hia.trans (congrArg iI (by omega))) (by omega) (v_401.trans (congrArg iI (by omega))) (by omega)) (cwV 2 hts (gV qw344 qw345 qw346 qw10 qw347) rfl rfl rfl (by decide +kernel) ⟨Nat.le_of_ble_eq_true rfl, Nat.le_of_ble_eq_true rfl⟩) (pvP (ci := 3) (r := (RX3, TX3, 5)) (q0 := 2) (wr := ([(ql, .inl (cI, 2, .inl gl)), (qs, .inl (cI, (aN Z), .inl g1))] ++ SP)) hP hD hK hT hZ hS (pm_3 _ _ _) rfl rfl) rfl rfl hl.1 rfl (lv_room (Nat.le_of_ble_eq_true rfl)) dL_law_402 ⟨(by show (cells + (80 * a9 + 2 * pS Z a9 b9)) ≤ 600130; omega), (by show (slots + (480 * a9 + 12 * pS Z a9 b9)) ≤ 7301080; omega)⟩) hS hP (fun x_402 H locs hw_402 hP hS => ?_)
                      replace hw_402 : (x_402 = abV (aL Z a9) (aH Z) (aR Z a9) (aG Z a9) 2) := hw_402
                      have v_402 := hw_402
                      have hv402 : x_402 = iI (fstL (aL Z a9) (aH Z) (aR Z a9)) := v_402.trans (abV_n.2.2.1 rfl)
                      refine lz_if_ge (tgt := 412) hx hb hv402 (by omega) dL_law_405 (by decide) (fun c_405 => ?_) (fun c_405 => ?_)
                      · refine lz_iconst hx hb dL_law_412 (fun x_412 v_412 => ?_)
                        refine lv_iload hx hb dL_law_413 (lv_at hl 4 rfl) ?_
                        refine lz_if_ne (tgt := 422) hx hb hal (by omega) dL_law_415 (by decide) (fun c_415 => ?_) (fun c_415 => ?_)
                        · refine lz_iconst hx hb dL_law_422 (fun x_422 v_422 => ?_)
                          refine lz_icmp_ne (tgt := 443) hx hb v_412 v_422 ⟨by omega, by omega⟩ dL_law_423 (by decide) (fun c_423 => ?_) (fun c_423 => ?_)
                          · exfalso; omega
                          · refine lv_aload_n hx hb dL_law_426 rfl (lv_at hl 7 rfl) ?_
                            refine lv_iload hx hb dL_law_427 (lv_at hl 15 rfl) ?_
                            refine lz_iconst hx hb dL_law_429 (fun x_429 v_429 => ?_)
                            refine cr_i (va_runV (As := [.int aa, .int x_429]) (rest := []) ⟨hx, hb, hml, hown, hts⟩ (k_X3_about_P l D cI cZ cJ cK _ aa x_429 ad Z cx a9 2 hC hI (hia.trans (congrArg iI (by omega))) (by omega) (v_429.trans (congrArg iI (by omega))) (by omega)) (cwV 2 hts (gV qw344 qw345 qw346 qw10 qw347) rfl rfl rfl (by decide +kernel) ⟨Nat.le_of_ble_eq_true rfl, Nat.le_of_ble_eq_true rfl⟩) (pvP (ci := 3) (r := (RX3, TX3, 5)) (q0 := 2) (wr := ([(ql, .inl (cI, 2, .inl gl)), (qs, .inl (cI, (aN Z), .inl g1))] ++ SP)) hP hD hK hT hZ hS (pm_3 _ _ _) rfl rfl) rfl rfl hl.1 rfl (lv_room (Nat.le_of_ble_eq_true rfl)) dL_law_430 ⟨(by show (cells + (80 * a9 + 2 * pS Z a9 b9)) ≤ 600130; omega), (by show (slots + (480 * a9 + 12 * pS Z a9 b9)) ≤ 7301080; omega)⟩) hS hP (fun x_430 H locs hw_430 hP hS => ?_)
                            replace hw_430 : (x_430 = abV (aL Z a9) (aH Z) (aR Z a9) (aG Z a9) 2) := hw_430
                            have v_430 := hw_430
                            have hv430 : x_430 = iI (fstL (aL Z a9) (aH Z) (aR Z a9)) := v_430.trans (abV_n.2.2.1 rfl)
                            refine lv_aload_n hx hb dL_law_433 rfl (lv_at hl 7 rfl) ?_
                            refine lv_iload hx hb dL_law_434 (lv_at hl 15 rfl) ?_
                            refine lz_iconst hx hb dL_law_436 (fun x_436 v_436 => ?_)
                            refine cr_i (va_runV (As := [.int aa, .int x_436]) (rest := [.int x_430]) ⟨hx, hb, hml, hown, hts⟩ (k_X3_about_P l D cI cZ cJ cK _ aa x_436 ad Z cx a9 3 hC hI (hia.trans (congrArg iI (by omega))) (by omega) (v_436.trans (congrArg iI (by omega))) (by omega)) (cwV 2 hts (gV qw344 qw345 qw346 qw10 qw347) rfl rfl rfl (by decide +kernel) ⟨Nat.le_of_ble_eq_true rfl, Nat.le_of_ble_eq_true rfl⟩) (pvP (ci := 3) (r := (RX3, TX3, 5)) (q0 := 2) (wr := ([(ql, .inl (cI, 2, .inl gl)), (qs, .inl (cI, (aN Z), .inl g1))] ++ SP)) hP hD hK hT hZ hS (pm_3 _ _ _) rfl rfl) rfl rfl hl.1 rfl (lv_room (Nat.le_of_ble_eq_true rfl)) dL_law_437 ⟨(by show (cells + (80 * a9 + 2 * pS Z a9 b9)) ≤ 600130; omega), (by show (slots + (480 * a9 + 12 * pS Z a9 b9)) ≤ 7301080; omega)⟩) hS hP (fun x_437 H locs hw_437 hP hS => ?_)
                            replace hw_437 : (x_437 = abV (aL Z a9) (aH Z) (aR Z a9) (aG Z a9) 3) := hw_437
                            have v_437 := hw_437
                            have hv437 : x_437 = iI (lstL (aL Z a9) (aH Z) (aR Z a9)) := v_437.trans (abV_n.2.2.2.1 rfl)
                            refine lz_icmp_le (tgt := 445) hx hb hv430 hv437 ⟨by omega, by omega⟩ dL_law_440 (by decide) (fun c_440 => ?_) (fun c_440 => ?_)
                            · refine lz_iinc (lv2 := fun z => [(10, .int z), (9, .int x_360), (15, .int bb), (14, .int mo), (13, .int le), (12, .int al), (11, .int x_132), (0, .ref bs), (1, .ref (ad 0)), (2, .ref t1), (3, .int tt), (4, .int xx), (5, .ref ql), (6, .int pp), (7, .int nn), (8, .ref qs)]) hx hb dL_law_445 hl (k := 15) rfl hia (by decide) (fun _ => rfl) (fun x_445 ls v_445 hl => ?_)
                              refine lv_goto (tgt := 122) hx hb dL_law_448 (by decide) ?_
                              refine W.widen (k := (cells + 80 * (a9 + 1))) (n := (slots + 480 * (a9 + 1))) (by omega) (by omega) ?_
                              exact ih122 (a9 + 1) x_445 x_360 g1 _ _ _ (by omega) (v_445.trans (congrArg iI (by omega))) (by omega) (v_360.trans (congrArg iI (by show _ = (↑(lH Z a9 + (aR Z a9).length) : Int); omega))) (fun e he => (hg1 e he).trans (congrArg iI (by rw [hp11, take_all (Nat.le_refl _)]; exact sn_next (hI.2.2.1 a9 hh2).1 he))) hP hD hS (lv_sub hl [7, 8, 9, 10, 11, 12, 13, 14, 15, 1, 0] rfl)
                            · exfalso; omega
                        · exfalso; omega
                      · refine lz_iconst hx hb dL_law_408 (fun x_408 v_408 => ?_)
                        refine lv_goto (tgt := 413) hx hb dL_law_409 (by decide) ?_
                        refine lv_iload hx hb dL_law_413 (lv_at hl 4 rfl) ?_
                        refine lz_if_ne (tgt := 422) hx hb hal (by omega) dL_law_415 (by decide) (fun c_415 => ?_) (fun c_415 => ?_)
                        · exfalso; omega
                        · refine lz_iconst hx hb dL_law_418 (fun x_418 v_418 => ?_)
                          refine lv_goto (tgt := 423) hx hb dL_law_419 (by decide) ?_
                          refine lz_icmp_ne (tgt := 443) hx hb v_408 v_418 ⟨by omega, by omega⟩ dL_law_423 (by decide) (fun c_423 => ?_) (fun c_423 => ?_)
                          · exfalso; omega
                          · refine lv_aload_n hx hb dL_law_426 rfl (lv_at hl 7 rfl) ?_
                            refine lv_iload hx hb dL_law_427 (lv_at hl 15 rfl) ?_
                            refine lz_iconst hx hb dL_law_429 (fun x_429 v_429 => ?_)
                            refine cr_i (va_runV (As := [.int aa, .int x_429]) (rest := []) ⟨hx, hb, hml, hown, hts⟩ (k_X3_about_P l D cI cZ cJ cK _ aa x_429 ad Z cx a9 2 hC hI (hia.trans (congrArg iI (by omega))) (by omega) (v_429.trans (congrArg iI (by omega))) (by omega)) (cwV 2 hts (gV qw344 qw345 qw346 qw10 qw347) rfl rfl rfl (by decide +kernel) ⟨Nat.le_of_ble_eq_true rfl, Nat.le_of_ble_eq_true rfl⟩) (pvP (ci := 3) (r := (RX3, TX3, 5)) (q0 := 2) (wr := ([(ql, .inl (cI, 2, .inl gl)), (qs, .inl (cI, (aN Z), .inl g1))] ++ SP)) hP hD hK hT hZ hS (pm_3 _ _ _) rfl rfl) rfl rfl hl.1 rfl (lv_room (Nat.le_of_ble_eq_true rfl)) dL_law_430 ⟨(by show (cells + (80 * a9 + 2 * pS Z a9 b9)) ≤ 600130; omega), (by show (slots + (480 * a9 + 12 * pS Z a9 b9)) ≤ 7301080; omega)⟩) hS hP (fun x_430 H locs hw_430 hP hS => ?_)
                            replace hw_430 : (x_430 = abV (aL Z a9) (aH Z) (aR Z a9) (aG Z a9) 2) := hw_430
                            have v_430 := hw_430
                            have hv430 : x_430 = iI (fstL (aL Z a9) (aH Z) (aR Z a9)) := v_430.trans (abV_n.2.2.1 rfl)
                            refine lv_aload_n hx hb dL_law_433 rfl (lv_at hl 7 rfl) ?_
                            refine lv_iload hx hb dL_law_434 (lv_at hl 15 rfl) ?_
                            refine lz_iconst hx hb dL_law_436 (fun x_436 v_436 => ?_)
                            refine cr_i (va_runV (As := [.int aa, .int x_436]) (rest := [.int x_430]) ⟨hx, hb, hml, hown, hts⟩ (k_X3_about_P l D cI cZ cJ cK _ aa x_436 ad Z cx a9 3 hC hI (hia.trans (congrArg iI (by omega))) (by omega) (v_436.trans (congrArg iI (by omega))) (by omega)) (cwV 2 hts (gV qw344 qw345 qw346 qw10 qw347) rfl rfl rfl (by decide +kernel) ⟨Nat.le_of_ble_eq_true rfl, Nat.le_of_ble_eq_true rfl⟩) (pvP (ci := 3) (r := (RX3, TX3, 5)) (q0 := 2) (wr := ([(ql, .inl (cI, 2, .inl gl)), (qs, .inl (cI, (aN Z), .inl g1))] ++ SP)) hP hD hK hT hZ hS (pm_3 _ _ _) rfl rfl) rfl rfl hl.1 rfl (lv_room (Nat.le_of_ble_eq_true rfl)) dL_law_437 ⟨(by show (cells + (80 * a9 + 2 * pS Z a9 b9)) ≤ 600130; omega), (by show (slots + (480 * a9 + 12 * pS Z a9 b9)) ≤ 7301080; omega)⟩) hS hP (fun x_437 H locs hw_437 hP hS => ?_)
                            replace hw_437 : (x_437 = abV (aL Z a9) (aH Z) (aR Z a9) (aG Z a9) 3) := hw_437
                            have v_437 := hw_437
                            have hv437 : x_437 = iI (lstL (aL Z a9) (aH Z) (aR Z a9)) := v_437.trans (abV_n.2.2.2.1 rfl)
                            refine lz_icmp_le (tgt := 445) hx hb hv430 hv437 ⟨by omega, by omega⟩ dL_law_440 (by decide) (fun c_440 => ?_) (fun c_440 => ?_)
                            · refine lz_iinc (lv2 := fun z => [(10, .int z), (9, .int x_360), (15, .int bb), (14, .int mo), (13, .int le), (12, .int al), (11, .int x_132), (0, .ref bs), (1, .ref (ad 0)), (2, .ref t1), (3, .int tt), (4, .int xx), (5, .ref ql), (6, .int pp), (7, .int nn), (8, .ref qs)]) hx hb dL_law_445 hl (k := 15) rfl hia (by decide) (fun _ => rfl) (fun x_445 ls v_445 hl => ?_)
                              refine lv_goto (tgt := 122) hx hb dL_law_448 (by decide) ?_
                              refine W.widen (k := (cells + 80 * (a9 + 1))) (n := (slots + 480 * (a9 + 1))) (by omega) (by omega) ?_
                              exact ih122 (a9 + 1) x_445 x_360 g1 _ _ _ (by omega) (v_445.trans (congrArg iI (by omega))) (by omega) (v_360.trans (congrArg iI (by show _ = (↑(lH Z a9 + (aR Z a9).length) : Int); omega))) (fun e he => (hg1 e he).trans (congrArg iI (by rw [hp11, take_all (Nat.le_refl _)]; exact sn_next (hI.2.2.1 a9 hh2).1 he))) hP hD hS (lv_sub hl [7, 8, 9, 10, 11, 12, 13, 14, 15, 1, 0] rfl)
                            · exfalso; omega
              · have hr40 := rw40 hI a9 hh2 b9
                have hps := pS_s Z a9 b9
                have hpl := pS_le Z a9 (b9 + 1)
                refine lv_aload_n hx hb dL_law_188 rfl (lv_at hl 6 rfl) ?_
                refine lv_iload hx hb dL_law_189 (lv_at hl 15 rfl) ?_
                refine lv_iload hx hb dL_law_191 (lv_at hl 0 rfl) ?_
                refine cr_i (va_runV (As := [.int aa, .int bb]) (rest := []) ⟨hx, hb, hml, hown, hts⟩ (k_X3_many_P l D cI cZ cJ cK _ aa bb ad Z cx a9 b9 hC hI (hia.trans (congrArg iI (by omega))) (by omega) (hib.trans (congrArg iI (by omega))) (by omega)) (cwV 2 hts (gV qw301 qw302 qw303 qw10 qw304) rfl rfl rfl (by decide +kernel) ⟨Nat.le_of_ble_eq_true rfl, Nat.le_of_ble_eq_true rfl⟩) (pvP (ci := 3) (r := (RX3, TX3, 5)) (q0 := 2) (wr := ([(ql, .inl (cI, 2, .inl gl)), (qs, .inl (cI, (aN Z), .inl g1))] ++ SP)) hP hD hK hT hZ hS (pm_3 _ _ _) rfl rfl) rfl rfl hl.1 rfl (lv_room (Nat.le_of_ble_eq_true rfl)) dL_law_193 ⟨(by show (cells + (80 * a9 + 2 * pS Z a9 b9)) ≤ 600130; omega), (by show (slots + (480 * a9 + 12 * pS Z a9 b9)) ≤ 7301080; omega)⟩) hS hP (fun x_193 H locs hw_193 hP hS => ?_)
                replace hw_193 : (x_193 = iI (↑(rwA Z a9 b9).length)) := hw_193
                have v_193 := hw_193
                refine lv_istore (lv' := [(16, .int x_193), (15, .int bb), (14, .int mo), (13, .int le), (12, .int al), (11, .int x_132), (0, .ref bs), (1, .ref (ad 0)), (2, .ref t1), (3, .int tt), (4, .int xx), (5, .ref ql), (6, .int pp), (7, .int nn), (8, .ref qs), (9, .int li), (10, .int aa)]) hx hb dL_law_196 hl (by decide) rfl (fun ls hl => ?_)
                refine lv_iload hx hb dL_law_198 (lv_at hl 4 rfl) ?_
                refine lv_iload hx hb dL_law_200 (lv_at hl 0 rfl) ?_
                refine lz_iadd hx hb hal v_193 dL_law_202 (fun x_202 v_202 => ?_)
                refine lv_istore (lv' := [(12, .int x_202), (16, .int x_193), (15, .int bb), (14, .int mo), (13, .int le), (11, .int x_132), (0, .ref bs), (1, .ref (ad 0)), (2, .ref t1), (3, .int tt), (4, .int xx), (5, .ref ql), (6, .int pp), (7, .int nn), (8, .ref qs), (9, .int li), (10, .int aa)]) hx hb dL_law_203 hl (by decide) rfl (fun ls hl => ?_)
                refine lz_iconst hx hb dL_law_205 (fun x_205 v_205 => ?_)
                refine lv_istore (lv' := [(17, .int x_205), (12, .int x_202), (16, .int x_193), (15, .int bb), (14, .int mo), (13, .int le), (11, .int x_132), (0, .ref bs), (1, .ref (ad 0)), (2, .ref t1), (3, .int tt), (4, .int xx), (5, .ref ql), (6, .int pp), (7, .int nn), (8, .ref qs), (9, .int li), (10, .int aa)]) hx hb dL_law_206 hl (by decide) rfl (fun ls hl => ?_)
                have key208 : ∀ (fu : Nat) (k9 : Nat) (kk9 : Int32) (le1 : Int32) (mo1 : Int32) (g2 : Nat → Int32) (H : Heap) (locs : List Loc) (ls : Array Slot), (rwA Z a9 b9).length + 1 - k9 < fu → (kk9 = iI (↑k9)) → (k9 ≤ (rwA Z a9 b9).length) → (le1 = iI (↑(minL (aH Z) ((aR Z a9).take (pS Z a9 b9 + k9))))) → (mo1 = iI (maxL (aH Z) ((aR Z a9).take (pS Z a9 b9 + k9)))) → (∀ e, e < aN Z → g2 e = iI (sn (aV Z) a9 ((aR Z a9).take (pS Z a9 b9 + k9)) e)) → va_P D vwCl ([(ql, .inl (cI, 2, .inl gl)), (qs, .inl (cI, (aN Z), .inl g2))] ++ ((clsW cI cZ ad cx) ++ SP)) H → va_D A ([(ql, .inl (cI, 2, .inl gl)), (qs, .inl (cI, (aN Z), .inl g2))] ++ ((clsW cI cZ ad cx) ++ SP)) → va_S A s.heap H locs → lv_has ls 22 [(17, .int kk9), (12, .int x_202), (16, .int x_193), (15, .int bb), (14, .int mo1), (13, .int le1), (11, .int x_132), (0, .ref bs), (1, .ref (ad 0)), (2, .ref t1), (3, .int tt), (4, .int xx), (5, .ref ql), (6, .int pp), (7, .int nn), (8, .ref qs), (9, .int li), (10, .int aa)] → W p l e room_1 s m args below meth c H locs (cells + (80 * a9 + 2 * (pS Z a9 b9 + k9))) (slots + (480 * a9 + 12 * (pS Z a9 b9 + k9))) Q (F0 m 208 ls []) := by
                  intro fu
                  induction fu with
                  | zero => intros; omega
                  | succ fu ih208 =>
                    intro k9 kk9 le1 mo1 g2 H locs ls hfu hik hlk hle1 hmo1 hg2 hP hD hS hl
                    refine lv_iload hx hb dL_law_208 (lv_at hl 0 rfl) ?_
                    refine lv_iload hx hb dL_law_210 (lv_at hl 2 rfl) ?_
                    refine lz_icmp_ge (tgt := 350) hx hb hik v_193 ⟨by omega, by omega⟩ dL_law_212 (by decide) (fun c_212 => ?_) (fun c_212 => ?_)
                    · have hk9 : k9 = (rwA Z a9 b9).length := by omega
                      refine lz_iinc (lv2 := fun z => [(15, .int z), (17, .int kk9), (12, .int x_202), (16, .int x_193), (14, .int mo1), (13, .int le1), (11, .int x_132), (0, .ref bs), (1, .ref (ad 0)), (2, .ref t1), (3, .int tt), (4, .int xx), (5, .ref ql), (6, .int pp), (7, .int nn), (8, .ref qs), (9, .int li), (10, .int aa)]) hx hb dL_law_350 hl (k := 3) rfl hib (by decide) (fun _ => rfl) (fun x_350 ls v_350 hl => ?_)
                      refine lv_goto (tgt := 181) hx hb dL_law_353 (by decide) ?_
                      refine W.widen (k := (cells + (80 * a9 + 2 * pS Z a9 (b9 + 1)))) (n := (slots + (480 * a9 + 12 * pS Z a9 (b9 + 1)))) (by omega) (by omega) ?_
                      exact ih181 (b9 + 1) x_350 x_202 le1 mo1 g2 _ _ _ (by omega) (v_350.trans (congrArg iI (by omega))) (by omega) (v_202.trans (congrArg iI (by omega))) (by rw [hps, ← hk9]; exact hle1) (by rw [hps, ← hk9]; exact hmo1) (by rw [hps, ← hk9]; exact hg2) hP hD hS (lv_sub hl [0, 4, 5, 2, 6, 7, 8, 9, 10, 11, 12, 13, 14, 15, 16, 17] rfl)
                    · obtain ⟨ra1, ra2⟩ := row_at hI hh2 (show k9 < (rwA Z a9 b9).length by omega)
                      obtain ⟨w1, w2, w3, w4, w5, w6⟩ := rw_bk hI hh2 (getD_in (show k9 < (rwA Z a9 b9).length by omega))
                      obtain ⟨y, hy⟩ : ∃ y, y = (rwA Z a9 b9).getD k9 0 := ⟨_, rfl⟩
                      rw [← hy] at ra1 w1 w2 w3 w4 w5 w6
                      refine lv_aload_n hx hb dL_law_215 rfl (lv_at hl 8 rfl) ?_
                      refine lv_iload hx hb dL_law_216 (lv_at hl 17 rfl) ?_
                      refine lv_iload hx hb dL_law_218 (lv_at hl 3 rfl) ?_
                      refine lv_iload hx hb dL_law_220 (lv_at hl 0 rfl) ?_
                      refine cr_i (va_runV (As := [.int aa, .int bb, .int kk9]) (rest := []) ⟨hx, hb, hml, hown, hts⟩ (k_X3_lies_P l D cI cZ cJ cK _ aa bb kk9 ad Z cx a9 b9 k9 hl0 hC hI (hia.trans (congrArg iI (by omega))) (by omega) (hib.trans (congrArg iI (by omega))) (by omega) (hik.trans (congrArg iI (by omega))) (by omega)) (cwV 3 hts (gV qw310 qw311 qw312 qw10 qw313) rfl rfl rfl (by decide +kernel) ⟨Nat.le_of_ble_eq_true rfl, Nat.le_of_ble_eq_true rfl⟩) (pvP (ci := 3) (r := (RX3, TX3, 5)) (q0 := 2) (wr := ([(ql, .inl (cI, 2, .inl gl)), (qs, .inl (cI, (aN Z), .inl g2))] ++ SP)) hP hD hK hT hZ hS (pm_3 _ _ _) rfl rfl) rfl rfl hl.1 rfl (lv_room (Nat.le_of_ble_eq_true rfl)) dL_law_222 ⟨(by show ((cells + (80 * a9 + 2 * (pS Z a9 b9 + k9))) + 1) ≤ 600130; omega), (by show ((slots + (480 * a9 + 12 * (pS Z a9 b9 + k9))) + 6) ≤ 7301080; omega)⟩) hS hP (fun x_222 H locs hw_222 hP hS => ?_)
                      replace hw_222 : (x_222 = iI (↑((rwA Z a9 b9).getD k9 0))) := hw_222
                      have v_222 := hw_222
                      have hv222 : x_222 = iI ↑y := by
                        rw [hy]
                        exact v_222
                      clear v_222 hy
                      refine lv_istore (lv' := [(18, .int x_222), (17, .int kk9), (12, .int x_202), (16, .int x_193), (15, .int bb), (14, .int mo1), (13, .int le1), (11, .int x_132), (0, .ref bs), (1, .ref (ad 0)), (2, .ref t1), (3, .int tt), (4, .int xx), (5, .ref ql), (6, .int pp), (7, .int nn), (8, .ref qs), (9, .int li), (10, .int aa)]) hx hb dL_law_225 hl (by decide) rfl (fun ls hl => ?_)
                      refine lv_aload_n hx hb dL_law_227 rfl (lv_at hl 9 rfl) ?_
                      refine lv_iload hx hb dL_law_228 (lv_at hl 0 rfl) ?_
                      refine lz_iconst hx hb dL_law_230 (fun x_230 v_230 => ?_)
                      refine cr_i (va_runV (As := [.int x_222, .int x_230]) (rest := []) ⟨hx, hb, hml, hown, hts⟩ (k_X3_told_P l D cI cZ cJ cK _ x_222 x_230 ad Z cx y 0 hC hI (hv222.trans (congrArg iI (by omega))) (by omega) (v_230.trans (congrArg iI (by omega))) (by omega)) (cwV 2 hts (gV qw369 qw370 qw371 qw10 qw372) rfl rfl rfl (by decide +kernel) ⟨Nat.le_of_ble_eq_true rfl, Nat.le_of_ble_eq_true rfl⟩) (pvP (ci := 3) (r := (RX3, TX3, 5)) (q0 := 2) (wr := ([(ql, .inl (cI, 2, .inl gl)), (qs, .inl (cI, (aN Z), .inl g2))] ++ SP)) hP hD hK hT hZ hS (pm_3 _ _ _) rfl rfl) rfl rfl hl.1 rfl (lv_room (Nat.le_of_ble_eq_true rfl)) dL_law_231 ⟨(by show ((cells + (80 * a9 + 2 * (pS Z a9 b9 + k9))) + 1) ≤ 600130; omega), (by show ((slots + (480 * a9 + 12 * (pS Z a9 b9 + k9))) + 6) ≤ 7301080; omega)⟩) hS hP (fun x_231 H locs hw_231 hP hS => ?_)
                      replace hw_231 : (x_231 = toV (aH Z y) (aV Z y) (bkA (aV Z y) (aL Z 0) (aL Z 1) (aH Z y)) (aM Z y) (aK Z y) 0) := hw_231
                      have v_231 := hw_231
                      have hv231 : x_231 = iI (↑(aH Z y)) := v_231.trans ((toV_n.1 rfl))
                      have hmt9 := minL_top (aH Z) ((aR Z a9).take (pS Z a9 b9 + k9))
                      have hmr := maxL_in (Hh := aH Z) (L := ((aR Z a9).take (pS Z a9 b9 + k9))) (fun x hx9 => (hI.2.1 x (m2 x (List.mem_of_mem_take hx9))).1)
                      refine lv_istore (lv' := [(19, .int x_231), (18, .int x_222), (17, .int kk9), (12, .int x_202), (16, .int x_193), (15, .int bb), (14, .int mo1), (13, .int le1), (11, .int x_132), (0, .ref bs), (1, .ref (ad 0)), (2, .ref t1), (3, .int tt), (4, .int xx), (5, .ref ql), (6, .int pp), (7, .int nn), (8, .ref qs), (9, .int li), (10, .int aa)]) hx hb dL_law_234 hl (by decide) rfl (fun ls hl => ?_)
                      refine lv_aload hx hb dL_law_236 (lv_at hl 17 rfl) ?_
                      refine lv_iload hx hb dL_law_238 (lv_at hl 1 rfl) ?_
                      refine lv_dup2_11 hx hb dL_law_240 rfl rfl ?_
                      refine lz_iald hx hb hK hP 1 0 rfl rfl hv222 (y) (by omega) (by omega) (by omega) dL_law_241 (fun x_241 e_241 => ?_)
                      have v_241 : x_241 = iI (sn (aV Z) a9 ((aR Z a9).take (pS Z a9 b9 + k9)) y) := e_241.trans (hg2 _ (by omega))
                      refine lz_iconst hx hb dL_law_242 (fun x_242 v_242 => ?_)
                      refine lz_iadd hx hb v_241 v_242 dL_law_243 (fun x_243 v_243 => ?_)
                      refine lz_iast hx hb hK hP hD hS 1 0 rfl rfl hv222 (y) (by omega) (by omega) (by omega) (ws2 := fun z => ([(ql, .inl (cI, 2, .inl gl)), (qs, .inl (cI, (aN Z), .inl z))] ++ ((clsW cI cZ ad cx) ++ SP))) (fun _ => rfl) dL_law_244 (fun f_244 H locs e_244 hP hD hS => ?_)
                      have hP : va_P D vwCl ([(ql, .inl (cI, 2, .inl gl)), (qs, .inl (cI, (aN Z), .inl f_244))] ++ ((clsW cI cZ ad cx) ++ SP)) H := hP
                      have hD : va_D A ([(ql, .inl (cI, 2, .inl gl)), (qs, .inl (cI, (aN Z), .inl f_244))] ++ ((clsW cI cZ ad cx) ++ SP)) := hD
                      refine lv_iload hx hb dL_law_245 (lv_at hl 7 rfl) ?_
                      refine lv_iload hx hb dL_law_247 (lv_at hl 0 rfl) ?_
                      refine lz_min hx hb (by rw [hml]; exact hl.1.symm) hown (hts _ qw591) (hts _ qw244) (hts _ qw20) (hts _ qw245) (Nat.le_of_ble_eq_true rfl) (Nat.le_of_ble_eq_true rfl) (by show ((cells + (80 * a9 + 2 * (pS Z a9 b9 + k9))) + 1) ≤ 600130; omega) (by show ((slots + (480 * a9 + 12 * (pS Z a9 b9 + k9))) + 6) ≤ 7301080; omega) hle1 hv231 ⟨by omega, by omega⟩ dL_law_249 (fun x_249 v_249 => ?_)
                      refine lv_istore (lv' := [(13, .int x_249), (19, .int x_231), (18, .int x_222), (17, .int kk9), (12, .int x_202), (16, .int x_193), (15, .int bb), (14, .int mo1), (11, .int x_132), (0, .ref bs), (1, .ref (ad 0)), (2, .ref t1), (3, .int tt), (4, .int xx), (5, .ref ql), (6, .int pp), (7, .int nn), (8, .ref qs), (9, .int li), (10, .int aa)]) hx hb dL_law_252 hl (by decide) rfl (fun ls hl => ?_)
                      refine lv_iload hx hb dL_law_254 (lv_at hl 7 rfl) ?_
                      refine lv_iload hx hb dL_law_256 (lv_at hl 1 rfl) ?_
                      refine lz_max hx hb (by rw [hml]; exact hl.1.symm) hown (hts _ qw638) (hts _ qw366) (hts _ qw20) (hts _ qw367) (Nat.le_of_ble_eq_true rfl) (Nat.le_of_ble_eq_true rfl) (by show ((cells + (80 * a9 + 2 * (pS Z a9 b9 + k9))) + 1) ≤ 600130; omega) (by show ((slots + (480 * a9 + 12 * (pS Z a9 b9 + k9))) + 6) ≤ 7301080; omega) hmo1 hv231 ⟨by omega, by omega⟩ dL_law_258 (fun x_258 v_258 => ?_)
                      refine lv_istore (lv' := [(14, .int x_258), (13, .int x_249), (19, .int x_231), (18, .int x_222), (17, .int kk9), (12, .int x_202), (16, .int x_193), (15, .int bb), (11, .int x_132), (0, .ref bs), (1, .ref (ad 0)), (2, .ref t1), (3, .int tt), (4, .int xx), (5, .ref ql), (6, .int pp), (7, .int nn), (8, .ref qs), (9, .int li), (10, .int aa)]) hx hb dL_law_261 hl (by decide) rfl (fun ls hl => ?_)
                      refine lv_aload_n hx hb dL_law_263 rfl (lv_at hl 10 rfl) ?_
                      refine lv_iload hx hb dL_law_264 (lv_at hl 3 rfl) ?_
                      refine lz_iconst hx hb dL_law_266 (fun x_266 v_266 => ?_)
                      refine cr_i (va_runV (As := [.int x_222, .int x_266]) (rest := []) ⟨hx, hb, hml, hown, hts⟩ (k_X3_told_P l D cI cZ cJ cK _ x_222 x_266 ad Z cx y 1 hC hI (hv222.trans (congrArg iI (by omega))) (by omega) (v_266.trans (congrArg iI (by omega))) (by omega)) (cwV 2 hts (gV qw369 qw370 qw371 qw10 qw372) rfl rfl rfl (by decide +kernel) ⟨Nat.le_of_ble_eq_true rfl, Nat.le_of_ble_eq_true rfl⟩) (pvP (ci := 3) (r := (RX3, TX3, 5)) (q0 := 2) (wr := ([(ql, .inl (cI, 2, .inl gl)), (qs, .inl (cI, (aN Z), .inl f_244))] ++ SP)) hP hD hK hT hZ hS (pm_3 _ _ _) rfl rfl) rfl rfl hl.1 rfl (lv_room (Nat.le_of_ble_eq_true rfl)) dL_law_267 ⟨(by show ((cells + (80 * a9 + 2 * (pS Z a9 b9 + k9))) + 1) ≤ 600130; omega), (by show ((slots + (480 * a9 + 12 * (pS Z a9 b9 + k9))) + 6) ≤ 7301080; omega)⟩) hS hP (fun x_267 H locs hw_267 hP hS => ?_)
                      replace hw_267 : (x_267 = toV (aH Z y) (aV Z y) (bkA (aV Z y) (aL Z 0) (aL Z 1) (aH Z y)) (aM Z y) (aK Z y) 1) := hw_267
                      have v_267 := hw_267
                      have hv267 : x_267 = iI (↑a9) := v_267.trans ((toV_n.2.1 rfl).trans (congrArg iI w1))
                      refine lv_iload hx hb dL_law_270 (lv_at hl 19 rfl) ?_
                      refine lz_icmp_ne (tgt := 342) hx hb hv267 hia ⟨by omega, by omega⟩ dL_law_272 (by decide) (fun c_272 => ?_) (fun c_272 => ?_)
                      · exfalso; omega
                      · refine lv_aload_n hx hb dL_law_275 rfl (lv_at hl 10 rfl) ?_
                        refine lv_iload hx hb dL_law_276 (lv_at hl 3 rfl) ?_
                        refine lz_iconst hx hb dL_law_278 (fun x_278 v_278 => ?_)
                        refine cr_i (va_runV (As := [.int x_222, .int x_278]) (rest := []) ⟨hx, hb, hml, hown, hts⟩ (k_X3_told_P l D cI cZ cJ cK _ x_222 x_278 ad Z cx y 2 hC hI (hv222.trans (congrArg iI (by omega))) (by omega) (v_278.trans (congrArg iI (by omega))) (by omega)) (cwV 2 hts (gV qw369 qw370 qw371 qw10 qw372) rfl rfl rfl (by decide +kernel) ⟨Nat.le_of_ble_eq_true rfl, Nat.le_of_ble_eq_true rfl⟩) (pvP (ci := 3) (r := (RX3, TX3, 5)) (q0 := 2) (wr := ([(ql, .inl (cI, 2, .inl gl)), (qs, .inl (cI, (aN Z), .inl f_244))] ++ SP)) hP hD hK hT hZ hS (pm_3 _ _ _) rfl rfl) rfl rfl hl.1 rfl (lv_room (Nat.le_of_ble_eq_true rfl)) dL_law_279 ⟨(by show ((cells + (80 * a9 + 2 * (pS Z a9 b9 + k9))) + 1) ≤ 600130; omega), (by show ((slots + (480 * a9 + 12 * (pS Z a9 b9 + k9))) + 6) ≤ 7301080; omega)⟩) hS hP (fun x_279 H locs hw_279 hP hS => ?_)
                        replace hw_279 : (x_279 = toV (aH Z y) (aV Z y) (bkA (aV Z y) (aL Z 0) (aL Z 1) (aH Z y)) (aM Z y) (aK Z y) 2) := hw_279
                        have v_279 := hw_279
                        have hv279 : x_279 = iI (↑b9) := v_279.trans ((toV_n.2.2.1 rfl).trans (congrArg iI w2))
                        refine lv_iload hx hb dL_law_282 (lv_at hl 7 rfl) ?_
                        refine lz_icmp_ne (tgt := 342) hx hb hv279 hib ⟨by omega, by omega⟩ dL_law_284 (by decide) (fun c_284 => ?_) (fun c_284 => ?_)
                        · exfalso; omega
                        · refine lv_iload hx hb dL_law_287 (lv_at hl 2 rfl) ?_
                          refine lv_iload hx hb dL_law_289 (lv_at hl 8 rfl) ?_
                          refine lz_icmp_lt (tgt := 342) hx hb hv231 hv132 ⟨by omega, by omega⟩ dL_law_291 (by decide) (fun c_291 => ?_) (fun c_291 => ?_)
                          · exfalso; omega
                          · refine lv_iload hx hb dL_law_294 (lv_at hl 2 rfl) ?_
                            refine lv_iload hx hb dL_law_296 (lv_at hl 7 rfl) ?_
                            refine lv_ishr hx hb dL_law_298 ?_
                            refine lv_topi (fun x_298 e_298 => ?_)
                            have v_298 : x_298 = iI (↑(aH Z y / 2 ^ b9)) := by rw [e_298, hv231, hib]; exact shr_I w5 (by omega)
                            refine lv_iload hx hb dL_law_299 (lv_at hl 8 rfl) ?_
                            refine lv_iload hx hb dL_law_301 (lv_at hl 7 rfl) ?_
                            refine lv_ishr hx hb dL_law_303 ?_
                            refine lv_topi (fun x_303 e_303 => ?_)
                            have v_303 : x_303 = iI (↑(aL Z a9 / 2 ^ b9)) := by rw [e_303, hv132, hib]; exact shr_I hl4 (by omega)
                            refine lz_icmp_ne (tgt := 342) hx hb v_298 v_303 ⟨div_rg w5, div_rg hl4⟩ dL_law_304 (by decide) (fun c_304 => ?_) (fun c_304 => ?_)
                            · exfalso; exact c_304 (bk_up w3)
                            · refine lv_iload hx hb dL_law_307 (lv_at hl 7 rfl) ?_
                              refine lz_if_le (tgt := 329) hx hb hib (by omega) dL_law_309 (by decide) (fun c_309 => ?_) (fun c_309 => ?_)
                              · refine lv_aload_n hx hb dL_law_329 rfl (lv_at hl 10 rfl) ?_
                                refine lv_iload hx hb dL_law_330 (lv_at hl 19 rfl) ?_
                                refine lv_iload hx hb dL_law_332 (lv_at hl 2 rfl) ?_
                                refine cr_i (va_runV (As := [.int aa, .int x_231]) (rest := []) ⟨hx, hb, hml, hown, hts⟩ (k_X3_bucketOf_P l D cI cZ cJ cK _ aa x_231 ad Z cx a9 (aH Z y) hl0 hC hI (hia.trans (congrArg iI (by omega))) (by omega) (hv231.trans (congrArg iI (by omega))) (by omega) (by omega)) (cwV 2 hts (gV qw319 qw320 qw321 qw10 qw322) rfl rfl rfl (by decide +kernel) ⟨Nat.le_of_ble_eq_true rfl, Nat.le_of_ble_eq_true rfl⟩) (pvP (ci := 3) (r := (RX3, TX3, 5)) (q0 := 2) (wr := ([(ql, .inl (cI, 2, .inl gl)), (qs, .inl (cI, (aN Z), .inl f_244))] ++ SP)) hP hD hK hT hZ hS (pm_3 _ _ _) rfl rfl) rfl rfl hl.1 rfl (lv_room (Nat.le_of_ble_eq_true rfl)) dL_law_334 ⟨(by show (((cells + (80 * a9 + 2 * (pS Z a9 b9 + k9))) + 1) + 1) ≤ 600130; omega), (by show (((slots + (480 * a9 + 12 * (pS Z a9 b9 + k9))) + 6) + 6) ≤ 7301080; omega)⟩) hS hP (fun x_334 H locs hw_334 hP hS => ?_)
                                replace hw_334 : (x_334 = iI (↑(bk (aL Z a9) (aH Z y)))) := hw_334
                                have v_334 := hw_334
                                refine lv_iload hx hb dL_law_337 (lv_at hl 7 rfl) ?_
                                refine lz_icmp_eq (tgt := 344) hx hb v_334 hib ⟨by omega, by omega⟩ dL_law_339 (by decide) (fun c_339 => ?_) (fun c_339 => ?_)
                                · refine lz_iinc (lv2 := fun z => [(17, .int z), (14, .int x_258), (13, .int x_249), (19, .int x_231), (18, .int x_222), (12, .int x_202), (16, .int x_193), (15, .int bb), (11, .int x_132), (0, .ref bs), (1, .ref (ad 0)), (2, .ref t1), (3, .int tt), (4, .int xx), (5, .ref ql), (6, .int pp), (7, .int nn), (8, .ref qs), (9, .int li), (10, .int aa)]) hx hb dL_law_344 hl (k := 4) rfl hik (by decide) (fun _ => rfl) (fun x_344 ls v_344 hl => ?_)
                                  refine lv_goto (tgt := 208) hx hb dL_law_347 (by decide) ?_
                                  refine W.widen (k := (cells + (80 * a9 + 2 * (pS Z a9 b9 + (k9 + 1))))) (n := (slots + (480 * a9 + 12 * (pS Z a9 b9 + (k9 + 1))))) (by omega) (by omega) ?_
                                  exact ih208 (k9 + 1) x_344 x_249 x_258 f_244 _ _ _ (by omega) (v_344.trans (congrArg iI (by omega))) (by omega) (v_249.trans (congrArg iI (by rw [← Nat.add_assoc, minL_take (aH Z) (aR Z a9) ra2, ← ra1]; omega))) (v_258.trans (congrArg iI (by rw [← Nat.add_assoc, maxL_take (aH Z) (aR Z a9) ra2, ← ra1]))) (by rw [← Nat.add_assoc, take_s ra2, ← ra1]; exact sn_push hg2 w1 (by rw [ra1]; exact nd_take m3 ra2) e_244 v_243) hP hD hS (lv_sub hl [0, 5, 6, 7, 1, 2, 8, 9, 10, 11, 12, 13, 14, 15, 16, 17, 18, 19] rfl)
                                · exfalso; omega
                              · refine lv_iload hx hb dL_law_312 (lv_at hl 2 rfl) ?_
                                refine lv_iload hx hb dL_law_314 (lv_at hl 7 rfl) ?_
                                refine lz_iconst hx hb dL_law_316 (fun x_316 v_316 => ?_)
                                refine lz_isub hx hb hib v_316 dL_law_317 (fun x_317 v_317 => ?_)
                                refine lv_ishr hx hb dL_law_318 ?_
                                refine lv_topi (fun x_318 e_318 => ?_)
                                have v_318 : x_318 = iI (↑(aH Z y / 2 ^ (b9 - 1))) := by rw [e_318, hv231, v_317, show ((↑b9 : Int) - 1) = ↑(b9 - 1) by omega]; exact shr_I w5 (by omega)
                                refine lv_iload hx hb dL_law_319 (lv_at hl 8 rfl) ?_
                                refine lv_iload hx hb dL_law_321 (lv_at hl 7 rfl) ?_
                                refine lz_iconst hx hb dL_law_323 (fun x_323 v_323 => ?_)
                                refine lz_isub hx hb hib v_323 dL_law_324 (fun x_324 v_324 => ?_)
                                refine lv_ishr hx hb dL_law_325 ?_
                                refine lv_topi (fun x_325 e_325 => ?_)
                                have v_325 : x_325 = iI (↑(aL Z a9 / 2 ^ (b9 - 1))) := by rw [e_325, hv132, v_324, show ((↑b9 : Int) - 1) = ↑(b9 - 1) by omega]; exact shr_I hl4 (by omega)
                                refine lz_icmp_eq (tgt := 342) hx hb v_318 v_325 ⟨div_rg w5, div_rg hl4⟩ dL_law_326 (by decide) (fun c_326 => ?_) (fun c_326 => ?_)
                                · exfalso; exact bk_dn w3 (by omega) c_326
                                · refine lv_aload_n hx hb dL_law_329 rfl (lv_at hl 10 rfl) ?_
                                  refine lv_iload hx hb dL_law_330 (lv_at hl 19 rfl) ?_
                                  refine lv_iload hx hb dL_law_332 (lv_at hl 2 rfl) ?_
                                  refine cr_i (va_runV (As := [.int aa, .int x_231]) (rest := []) ⟨hx, hb, hml, hown, hts⟩ (k_X3_bucketOf_P l D cI cZ cJ cK _ aa x_231 ad Z cx a9 (aH Z y) hl0 hC hI (hia.trans (congrArg iI (by omega))) (by omega) (hv231.trans (congrArg iI (by omega))) (by omega) (by omega)) (cwV 2 hts (gV qw319 qw320 qw321 qw10 qw322) rfl rfl rfl (by decide +kernel) ⟨Nat.le_of_ble_eq_true rfl, Nat.le_of_ble_eq_true rfl⟩) (pvP (ci := 3) (r := (RX3, TX3, 5)) (q0 := 2) (wr := ([(ql, .inl (cI, 2, .inl gl)), (qs, .inl (cI, (aN Z), .inl f_244))] ++ SP)) hP hD hK hT hZ hS (pm_3 _ _ _) rfl rfl) rfl rfl hl.1 rfl (lv_room (Nat.le_of_ble_eq_true rfl)) dL_law_334 ⟨(by show (((cells + (80 * a9 + 2 * (pS Z a9 b9 + k9))) + 1) + 1) ≤ 600130; omega), (by show (((slots + (480 * a9 + 12 * (pS Z a9 b9 + k9))) + 6) + 6) ≤ 7301080; omega)⟩) hS hP (fun x_334 H locs hw_334 hP hS => ?_)
                                  replace hw_334 : (x_334 = iI (↑(bk (aL Z a9) (aH Z y)))) := hw_334
                                  have v_334 := hw_334
                                  refine lv_iload hx hb dL_law_337 (lv_at hl 7 rfl) ?_
                                  refine lz_icmp_eq (tgt := 344) hx hb v_334 hib ⟨by omega, by omega⟩ dL_law_339 (by decide) (fun c_339 => ?_) (fun c_339 => ?_)
                                  · refine lz_iinc (lv2 := fun z => [(17, .int z), (14, .int x_258), (13, .int x_249), (19, .int x_231), (18, .int x_222), (12, .int x_202), (16, .int x_193), (15, .int bb), (11, .int x_132), (0, .ref bs), (1, .ref (ad 0)), (2, .ref t1), (3, .int tt), (4, .int xx), (5, .ref ql), (6, .int pp), (7, .int nn), (8, .ref qs), (9, .int li), (10, .int aa)]) hx hb dL_law_344 hl (k := 4) rfl hik (by decide) (fun _ => rfl) (fun x_344 ls v_344 hl => ?_)
                                    refine lv_goto (tgt := 208) hx hb dL_law_347 (by decide) ?_
                                    refine W.widen (k := (cells + (80 * a9 + 2 * (pS Z a9 b9 + (k9 + 1))))) (n := (slots + (480 * a9 + 12 * (pS Z a9 b9 + (k9 + 1))))) (by omega) (by omega) ?_
                                    exact ih208 (k9 + 1) x_344 x_249 x_258 f_244 _ _ _ (by omega) (v_344.trans (congrArg iI (by omega))) (by omega) (v_249.trans (congrArg iI (by rw [← Nat.add_assoc, minL_take (aH Z) (aR Z a9) ra2, ← ra1]; omega))) (v_258.trans (congrArg iI (by rw [← Nat.add_assoc, maxL_take (aH Z) (aR Z a9) ra2, ← ra1]))) (by rw [← Nat.add_assoc, take_s ra2, ← ra1]; exact sn_push hg2 w1 (by rw [ra1]; exact nd_take m3 ra2) e_244 v_243) hP hD hS (lv_sub hl [0, 5, 6, 7, 1, 2, 8, 9, 10, 11, 12, 13, 14, 15, 16, 17, 18, 19] rfl)
                                  · exfalso; omega
                refine W.widen (k := (cells + (80 * a9 + 2 * (pS Z a9 b9 + 0)))) (n := (slots + (480 * a9 + 12 * (pS Z a9 b9 + 0)))) (by omega) (by omega) ?_
                exact key208 _ 0 x_205 le mo g1 _ _ _ (Nat.lt_succ_self _) (v_205.trans (congrArg iI (by omega))) (by omega) (hle) (hmo) (hg1) hP hD hS (lv_sub hl [0, 1, 2, 3, 4, 5, 6, 7, 8, 9, 10, 11, 12, 13, 14, 15, 16, 17] rfl)
          refine W.widen (k := (cells + (80 * a9 + 2 * pS Z a9 0))) (n := (slots + (480 * a9 + 12 * pS Z a9 0))) (by omega) (by omega) ?_
          exact key181 _ 0 x_178 x_167 x_170 x_175 g _ _ _ (Nat.lt_succ_self _) (v_178.trans (congrArg iI (by omega))) (by omega) (v_167) (v_170.trans (by rw [show pS Z a9 0 = 0 from rfl, List.take_zero]; rfl)) (v_175.trans (by rw [show pS Z a9 0 = 0 from rfl, List.take_zero]; rfl)) (by rw [show pS Z a9 0 = 0 from rfl, List.take_zero]; exact hg) hP hD hS (lv_sub hl [0, 1, 2, 3, 4, 5, 6, 7, 8, 9, 10, 11, 12, 13, 14, 15] rfl)
        refine lv_iload hx hb dL_law_137 (lv_at hl 0 rfl) ?_
        refine lz_if_lt (tgt := 165) hx hb hv132 (by omega) dL_law_139 (by decide) (fun c_139 => ?_) (fun c_139 => ?_)
        · exfalso; omega
        · refine lv_iload hx hb dL_law_142 (lv_at hl 0 rfl) ?_
          refine lz_sipush hx hb (by decide) dL_law_144 (fun x_144 v_144 => ?_)
          refine lz_icmp_gt (tgt := 165) hx hb hv132 v_144 ⟨by omega, by omega⟩ dL_law_147 (by decide) (fun c_147 => ?_) (fun c_147 => ?_)
          · exfalso; omega
          · refine lv_iload hx hb dL_law_150 (lv_at hl 0 rfl) ?_
            refine lv_aload hx hb dL_law_152 (lv_at hl 6 rfl) ?_
            refine lv_iload hx hb dL_law_154 (lv_at hl 11 rfl) ?_
            refine lz_iald hx hb hK hP 0 0 rfl rfl hia (a9) (by omega) (by omega) (by decide) dL_law_156 (fun x_156 e_156 => ?_)
            have v_156 : x_156 = iI (↑(lw0 a9)) := e_156.trans (hlow _ hh2)
            refine lz_icmp_ge (tgt := 167) hx hb hv132 v_156 ⟨by omega, by omega⟩ dL_law_157 (by decide) (fun c_157 => ?_) (fun c_157 => ?_)
            · exact J167 _ (lv_sub hl [0, 1, 2, 3, 4, 5, 6, 7, 8, 9, 10, 11] rfl)
            · refine lv_iload hx hb dL_law_160 (lv_at hl 7 rfl) ?_
              refine lz_if_ne (tgt := 167) hx hb hpp (by omega) dL_law_162 (by decide) (fun c_162 => ?_) (fun c_162 => ?_)
              · exact J167 _ (lv_sub hl [0, 1, 2, 3, 4, 5, 6, 7, 8, 9, 10, 11] rfl)
              · exfalso; have := hpv c_162 a9 hh2; omega
  refine W.widen (k := (cells + 80 * 0)) (n := (slots + 480 * 0)) (by omega) (by omega) ?_
  exact key122 _ 0 a0 l0 g0 _ _ _ (Nat.lt_succ_self _) (ha9.trans (congrArg iI (by omega))) (by omega) (hl9) (fun e he => (hg0 e he).trans (congrArg iI (sn_0 _ _).symm)) hP hD hS (lv_sub hl [0, 1, 2, 3, 4, 5, 6, 7, 8, 9, 10] rfl)
