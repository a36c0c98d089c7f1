set_option maxHeartbeats 4000000 in
set_option maxRecDepth 100000 in
theorem t_s5 {p : Program} {e : Env} {s : State} {m : MethodId} {args : Array Value} {below : List Frame} {meth : Method} {c : Code} {Q : State → Prop} {A : Nat → Prop} (l : Launch) (hl0 : l.stackTraces = false) (D : va_G) (cI cZ cJ cK : ClassId) (ad : Nat → Nat) (Z : va_AS) (cx : CX) (bs : Nat) (t1 : Nat) (tt : Int32) (lw : Nat) (rk : Nat) (hs : Nat) (em : Nat) (mt : Int32) (qn : Int32) (L : List Nat) (f : Nat → va_E) (t : Nat) (h : Nat) (hh0 : Int32) (sz : Int32) {H : Heap} {locs : List Loc} {ls : Array Slot} {cells slots : Nat}  (hx : p.tables.exec = Jvm.exec) (hb : c.code = cL_law) (hml : c.maxLocals = 22) (hown : s.vm.findClass RL = some m.cls) (hts : ∀ w ∈ lw_G, w.before args s = true) (hT : TW s) (hZ : ZW A s s.heap) (hK : va_K D vwCl (KT cI cZ cJ cK) s) (hA : ∀ q : Nat, s.heap.size ≤ q → A q) (hC : CStx Z cx) (hI : AI Z) (hPI : PI Z) (hh2 : h < 2) (hhv : hh0 = iI ↑h) (hsz : sz = iI ↑(aR Z h).length) (hSP : SMA cI cJ cK Z lw rk hs em L f) (hmt : mt = aT Z) (hqn : qn = aQ Z) (htt : tt = iI ↑t) (htl : t < 1000) (hP : va_P D vwCl ((clsW cI cZ ad cx) ++ ([(t1, .inr (4, [.ref lw, .ref rk, .ref hs, .ref em, .int mt, .int qn]))] ++ va_pl L f)) H) (hD : va_D A ((clsW cI cZ ad cx) ++ ([(t1, .inr (4, [.ref lw, .ref rk, .ref hs, .ref em, .int mt, .int qn]))] ++ va_pl L f))) (hS : va_S A s.heap H locs) (hl : lv_has ls 22 [(0, .ref bs), (1, .ref (ad 0)), (2, .ref t1), (3, .int tt), (12, .int hh0), (13, .int sz)]) (hcc : cells + 85 ≤ 600130) (hss : slots + 3258 ≤ 7301080) (kk : ∀ (Z9 : va_AS) (cx9 : CX) (mt9 : Int32) (L9 : List Nat) (f9 : Nat → va_E) (H : Heap) (locs : List Loc) (ls : Array Slot), (CStx Z9 cx9) → (AI Z9) → (PI Z9) → (SMA cI cJ cK Z9 lw rk hs em L9 f9) → (mt9 = aT Z9) → (qn = aQ Z9) → va_P D vwCl ((clsW cI cZ ad cx9) ++ ([(t1, .inr (4, [.ref lw, .ref rk, .ref hs, .ref em, .int mt9, .int qn]))] ++ va_pl L9 f9)) H → va_D A ((clsW cI cZ ad cx9) ++ ([(t1, .inr (4, [.ref lw, .ref rk, .ref hs, .ref em, .int mt9, .int qn]))] ++ va_pl L9 f9)) → va_S A s.heap H locs → lv_has ls 22 [(0, .ref bs), (1, .ref (ad 0)), (2, .ref t1), (3, .int tt)] → W p l e room_1 s m args below meth c H locs (cells + 85) (slots + 3258) Q (F0 m 935 ls [])) : W p l e room_1 s m args below meth c H locs cells slots Q (F0 m 817 ls []) := by
  have m40 := hI.1
  obtain ⟨m1, m2, m3⟩ := AI_len hI hh2
  obtain ⟨j1, j2, j3⟩ := hI.2.2.1 h hh2
  refine lv_iload hx hb dL_law_817 (lv_at hl 5 rfl) ?_
  refine lz_if_eq (tgt := 935) hx hb hsz (by omega) dL_law_819 (by decide) (fun c_819 => ?_) (fun c_819 => ?_)
  · refine W.widen (k := cells + 85) (n := slots + 3258) (by omega) (by omega) ?_
    exact kk Z cx mt L f _ _ _ (hC) (hI) (hPI) (hSP) (hmt) (hqn) hP hD hS (lv_sub hl [0, 1, 2, 3] rfl)
  · refine lv_iload_n hx hb dL_law_822 rfl (lv_at hl 3 rfl) ?_
    refine lz_iconst hx hb dL_law_823 (fun x_823 v_823 => ?_)
    refine lv_irem hx hb dL_law_824 (by rw [v_823]; decide) ?_
    refine lv_topi (fun x_824 e_824 => ?_)
    have v_824 : x_824 = iI (↑(t % 3)) := by rw [e_824, htt, v_823]; exact rem_I (d := 3) (by omega) (by decide) (by decide)
    refine lz_if_le (tgt := 831) hx hb v_824 (by omega) dL_law_825 (by decide) (fun c_825 => ?_) (fun c_825 => ?_)
    · have hne : aR Z h ≠ [] := fun z => c_819 (by rw [z]; rfl)
      have hI2 := AI_rak hI hh2 hne
      have hxn := (rw_in hI hh2 (rkX_in hI hh2 hne).1)
      obtain ⟨w1, w2, w3, w4, w5, w6⟩ := hxn
      have hlo9 : aL (rakA Z h) h = aH Z (rkX Z h) := (va_up_self _ _ _).trans (nx_min j2 hne).1.symm
      have hle9 : (aR (rakA Z h) h).length = (aR Z h).length - 1 := by
        show (va_up (aR Z) h (rkL (aL Z h) (aH Z) (aR Z h)).tail h).length = _
        rw [va_up_self, List.length_tail, (rkL_ne j2 hne).2]
      refine lv_aload_n hx hb dL_law_831 rfl (lv_at hl 1 rfl) ?_
      refine lv_iload hx hb dL_law_832 (lv_at hl 4 rfl) ?_
      refine lz_iconst hx hb dL_law_834 (fun x_834 v_834 => ?_)
      refine cp_i (wr := ([(t1, .inr (4, [.ref lw, .ref rk, .ref hs, .ref em, .int mt, .int qn]))] ++ va_pl L f)) (ws2 := fun u9 => ((clsW cI cZ ad u9) ++ ([(t1, .inr (4, [.ref lw, .ref rk, .ref hs, .ref em, .int mt, .int qn]))] ++ va_pl L f))) (va_runV (As := [.int hh0, .int x_834]) (rest := []) ⟨hx, hb, hml, hown, hts⟩ (k_X3_next_P l D cI cZ cJ cK _ hh0 x_834 ad Z cx h 0 hl0 hC hI (hhv.trans (congrArg iI (by omega))) (by omega) (v_834.trans (congrArg iI (by omega))) (by omega)) (cwV 2 hts (gV qw410 qw411 qw412 qw10 qw413) rfl rfl rfl (by decide +kernel) ⟨Nat.le_of_ble_eq_true rfl, Nat.le_of_ble_eq_true rfl⟩) (pvP (ci := 3) (r := (RX3, TX3, 5)) (q0 := 0) (wr := ([(t1, .inr (4, [.ref lw, .ref rk, .ref hs, .ref em, .int mt, .int qn]))] ++ va_pl L f)) hP hD hK hT hZ hS List.perm_append_comm rfl rfl) rfl rfl hl.1 rfl (lv_room (Nat.le_of_ble_eq_true rfl)) dL_law_835 ⟨(by show (cells + 1) ≤ 600130; omega), (by show (slots + 6) ≤ 7301080; omega)⟩) hS hP hD hA List.perm_append_comm (fun _ => List.perm_append_comm) (fun x_835 u_835 H locs hw_835 hP hD hS => ?_)
      obtain ⟨cx2_835, rfl⟩ : ∃ z, z = u_835 := ⟨_, rfl⟩
      have hP : va_P D vwCl ((clsW cI cZ ad cx2_835) ++ ([(t1, .inr (4, [.ref lw, .ref rk, .ref hs, .ref em, .int mt, .int qn]))] ++ va_pl L f)) H := hP
      have hD : va_D A ((clsW cI cZ ad cx2_835) ++ ([(t1, .inr (4, [.ref lw, .ref rk, .ref hs, .ref em, .int mt, .int qn]))] ++ va_pl L f)) := hD
      replace hw_835 : (x_835 = iI (↑((rkL (rkI (aL Z h) (aH Z) (aR Z h) 0).1 (aH Z) (rkI (aL Z h) (aH Z) (aR Z h) 0).2).headD 0))) ∧ (CStx Z cx2_835) := hw_835
      obtain ⟨v_835, c_835⟩ := hw_835
      have hv835 : x_835 = iI (↑(rkX Z h)) := v_835
      have hC := c_835
      refine lv_istore (lv' := [(19, .int x_835), (0, .ref bs), (1, .ref (ad 0)), (2, .ref t1), (3, .int tt), (12, .int hh0), (13, .int sz)]) hx hb dL_law_838 hl (by decide) rfl (fun ls hl => ?_)
      refine lv_aload_n hx hb dL_law_840 rfl (lv_at hl 2 rfl) ?_
      refine lv_iload hx hb dL_law_841 (lv_at hl 5 rfl) ?_
      refine lz_iconst hx hb dL_law_843 (fun x_843 v_843 => ?_)
      refine cp_i (wr := ([(t1, .inr (4, [.ref lw, .ref rk, .ref hs, .ref em, .int mt, .int qn]))] ++ va_pl L f)) (ws2 := fun u9 => ((clsW cI cZ ad u9) ++ ([(t1, .inr (4, [.ref lw, .ref rk, .ref hs, .ref em, .int mt, .int qn]))] ++ va_pl L f))) (va_runV (As := [.int hh0, .int x_843]) (rest := []) ⟨hx, hb, hml, hown, hts⟩ (k_X3_moves_P l D cI cZ cJ cK _ hh0 x_843 ad Z cx2_835 h 1 hl0 hC hI (hhv.trans (congrArg iI (by omega))) (by omega) (v_843.trans (congrArg iI (by omega))) (by omega)) (cwV 2 hts (gV qw428 qw429 qw430 qw10 qw431) rfl rfl rfl (by decide +kernel) ⟨Nat.le_of_ble_eq_true rfl, Nat.le_of_ble_eq_true rfl⟩) (pvP (ci := 3) (r := (RX3, TX3, 5)) (q0 := 0) (wr := ([(t1, .inr (4, [.ref lw, .ref rk, .ref hs, .ref em, .int mt, .int qn]))] ++ va_pl L f)) hP hD hK hT hZ hS List.perm_append_comm rfl rfl) rfl rfl hl.1 rfl (lv_room (Nat.le_of_ble_eq_true rfl)) dL_law_844 ⟨(by show ((cells + 1) + 1) ≤ 600130; omega), (by show ((slots + 6) + 6) ≤ 7301080; omega)⟩) hS hP hD hA List.perm_append_comm (fun _ => List.perm_append_comm) (fun x_844 u_844 H locs hw_844 hP hD hS => ?_)
      obtain ⟨cx2_844, rfl⟩ : ∃ z, z = u_844 := ⟨_, rfl⟩
      have hP : va_P D vwCl ((clsW cI cZ ad cx2_844) ++ ([(t1, .inr (4, [.ref lw, .ref rk, .ref hs, .ref em, .int mt, .int qn]))] ++ va_pl L f)) H := hP
      have hD : va_D A ((clsW cI cZ ad cx2_844) ++ ([(t1, .inr (4, [.ref lw, .ref rk, .ref hs, .ref em, .int mt, .int qn]))] ++ va_pl L f)) := hD
      replace hw_844 : (x_844 = iI (↑(rkBs (aL Z h) (aH Z) (aR Z h) 1).length)) ∧ (CStx Z cx2_844) := hw_844
      obtain ⟨v_844, c_844⟩ := hw_844
      have hv844 : x_844 = iI (↑(rkB (aL Z h) (aH Z) (aR Z h)).length) := v_844
      have hC := c_844
      refine lv_istore (lv' := [(20, .int x_844), (19, .int x_835), (0, .ref bs), (1, .ref (ad 0)), (2, .ref t1), (3, .int tt), (12, .int hh0), (13, .int sz)]) hx hb dL_law_847 hl (by decide) rfl (fun ls hl => ?_)
      refine lv_aload_n hx hb dL_law_849 rfl (lv_at hl 3 rfl) ?_
      refine lz_iconst hx hb dL_law_850 (fun x_850 v_850 => ?_)
      refine cr_i (va_runV (As := [.int x_850]) (rest := []) ⟨hx, hb, hml, hown, hts⟩ (k_X3_count_P l D cI cZ cJ cK _ x_850 ad Z cx2_844 2 hC hI (v_850.trans (congrArg iI (by omega))) (by omega)) (cwV 1 hts (gV qw397 qw398 qw399 qw10 qw400) rfl rfl rfl (by decide +kernel) ⟨Nat.le_of_ble_eq_true rfl, Nat.le_of_ble_eq_true rfl⟩) (pvP (ci := 3) (r := (RX3, TX3, 5)) (q0 := 0) (wr := ([(t1, .inr (4, [.ref lw, .ref rk, .ref hs, .ref em, .int mt, .int qn]))] ++ va_pl L f)) hP hD hK hT hZ hS List.perm_append_comm rfl rfl) rfl rfl hl.1 rfl (lv_room (Nat.le_of_ble_eq_true rfl)) dL_law_851 ⟨(by show ((cells + 1) + 1) ≤ 600130; omega), (by show ((slots + 6) + 6) ≤ 7301080; omega)⟩) hS hP (fun x_851 H locs hw_851 hP hS => ?_)
      replace hw_851 : (x_851 = coV (aN Z) ((aR Z 0).length + (aR Z 1).length) (aT Z) (aG Z 0 + aG Z 1) (aQ Z) 2) := hw_851
      have v_851 := hw_851
      have hv851 : x_851 = aT Z := v_851.trans (coV_n.2.2.1 rfl)
      refine lv_istore (lv' := [(21, .int x_851), (20, .int x_844), (19, .int x_835), (0, .ref bs), (1, .ref (ad 0)), (2, .ref t1), (3, .int tt), (12, .int hh0), (13, .int sz)]) hx hb dL_law_854 hl (by decide) rfl (fun ls hl => ?_)
      refine lv_aload_n hx hb dL_law_856 rfl (lv_at hl 4 rfl) ?_
      refine lv_iload hx hb dL_law_857 (lv_at hl 7 rfl) ?_
      refine cp_i (wr := ([(t1, .inr (4, [.ref lw, .ref rk, .ref hs, .ref em, .int mt, .int qn]))] ++ va_pl L f)) (ws2 := fun u9 => ((clsW cI cZ ad u9) ++ ([(t1, .inr (4, [.ref lw, .ref rk, .ref hs, .ref em, .int mt, .int qn]))] ++ va_pl L f))) (va_runV (As := [.int hh0]) (rest := []) ⟨hx, hb, hml, hown, hts⟩ (k_X3_rake_P l D cI cZ cJ cK _ hh0 ad Z cx2_844 h hl0 hC hI (hhv.trans (congrArg iI (by omega))) (by omega) (by omega)) (cwV 1 hts (gV qw115 qw116 qw117 qw10 qw118) rfl rfl rfl (by decide +kernel) ⟨Nat.le_of_ble_eq_true rfl, Nat.le_of_ble_eq_true rfl⟩) (pvP (ci := 3) (r := (RX3, TX3, 5)) (q0 := 0) (wr := ([(t1, .inr (4, [.ref lw, .ref rk, .ref hs, .ref em, .int mt, .int qn]))] ++ va_pl L f)) hP hD hK hT hZ hS List.perm_append_comm rfl rfl) rfl rfl hl.1 rfl (lv_room (Nat.le_of_ble_eq_true rfl)) dL_law_859 ⟨(by show (((cells + 1) + 1) + 1) ≤ 600130; omega), (by show (((slots + 6) + 6) + 6) ≤ 7301080; omega)⟩) hS hP hD hA List.perm_append_comm (fun _ => List.perm_append_comm) (fun x_859 u_859 H locs hw_859 hP hD hS => ?_)
      obtain ⟨cx2_859, rfl⟩ : ∃ z, z = u_859 := ⟨_, rfl⟩
      have hP : va_P D vwCl ((clsW cI cZ ad cx2_859) ++ ([(t1, .inr (4, [.ref lw, .ref rk, .ref hs, .ref em, .int mt, .int qn]))] ++ va_pl L f)) H := hP
      have hD : va_D A ((clsW cI cZ ad cx2_859) ++ ([(t1, .inr (4, [.ref lw, .ref rk, .ref hs, .ref em, .int mt, .int qn]))] ++ va_pl L f)) := hD
      replace hw_859 : (x_859 = iI (↑((rkL (aL Z h) (aH Z) (aR Z h)).headD 0))) ∧ (CStx (rakA Z h) cx2_859) := hw_859
      obtain ⟨v_859, c_859⟩ := hw_859
      have hv859 : x_859 = iI (↑(rkX Z h)) := v_859
      refine lv_iload hx hb dL_law_862 (lv_at hl 2 rfl) ?_
      refine lz_icmp_ne (tgt := 933) hx hb hv859 hv835 ⟨by omega, by omega⟩ dL_law_864 (by decide) (fun c_864 => ?_) (fun c_864 => ?_)
      · exfalso; omega
      · refine lv_aload_n hx hb dL_law_867 rfl (lv_at hl 5 rfl) ?_
        refine lv_iload hx hb dL_law_868 (lv_at hl 7 rfl) ?_
        rcases (show (rkF (aL Z h) (aH Z) (aR Z h) = 0) ∨ (¬ rkF (aL Z h) (aH Z) (aR Z h) = 0) by omega) with q9 | q9
        · obtain ⟨r1, r2, r3, r4, r5⟩ := RS_rak0 hI hh2 hne q9
          refine cp_i (wr := (clsW cI cZ ad cx2_859)) (ws2 := fun u9 => ((clsW cI cZ ad cx2_859) ++ ([(t1, .inr (4, [.ref lw, .ref rk, .ref hs, .ref em, .int mt, .int qn]))] ++ va_pl u9.1 u9.2))) (va_runV (As := [.int hh0]) (rest := []) ⟨hx, hb, hml, hown, hts⟩ (k_X4_rake_0 l D cI cZ cJ cK _ t1 hh0 lw rk hs em mt qn L f h 0 (aN Z) (aH Z) (aM Z) (aK Z) (aL Z) (aG Z) (rwA Z) (hSP) (hhv.trans (congrArg iI (by omega))) (hh2) (by decide) (rfl) (fun j hj => absurd hj (Nat.not_lt_zero j)) (r2) (m40) (r2) (fun x hx9 => m2 x (rw_mem.mp hx9).1) (rw40 hI h hh2 0) (fun b _ => rw40 hI h hh2 b)) (cwV 1 hts (gV qw459 qw460 qw461 qw14 qw462) rfl rfl rfl (by decide +kernel) ⟨Nat.le_of_ble_eq_true rfl, Nat.le_of_ble_eq_true rfl⟩) (pvP (ci := 4) (r := (RX4, TX4, 6)) (q0 := 24) (wr := (clsW cI cZ ad cx2_859)) hP hD hK hT hZ hS (List.Perm.refl _) rfl rfl) rfl rfl hl.1 rfl (lv_room (Nat.le_of_ble_eq_true rfl)) dL_law_870 ⟨(by show ((((cells + 1) + 1) + 1) + 82) ≤ 600130; omega), (by show ((((slots + 6) + 6) + 6) + 3240) ≤ 7301080; omega)⟩) hS hP hD hA (List.Perm.refl _) (fun _ => List.Perm.refl _) (fun x_870 u_870 H locs hw_870 hP hD hS => ?_)
          obtain ⟨L2_870, f2_870⟩ := u_870
          have hP : va_P D vwCl ((clsW cI cZ ad cx2_859) ++ ([(t1, .inr (4, [.ref lw, .ref rk, .ref hs, .ref em, .int mt, .int qn]))] ++ va_pl L2_870 f2_870)) H := hP
          have hD : va_D A ((clsW cI cZ ad cx2_859) ++ ([(t1, .inr (4, [.ref lw, .ref rk, .ref hs, .ref em, .int mt, .int qn]))] ++ va_pl L2_870 f2_870)) := hD
          replace hw_870 : (x_870 = iI (↑(((rwA Z) h 0).getD 0 0))) ∧ (SimP cI cJ cK (aN Z) (aH Z) (aM Z) (va_up (aK Z) (((rwA Z) h 0).getD 0 0) 1) (aL Z) (upd (aG Z) h ((aG Z) h + iI 1)) (va_up (rwA Z) h (va_up ((rwA Z) h) 0 (((rwA Z) h 0).filter (fun y => decide (y ≠ (((rwA Z) h 0).getD 0 0)))))) lw rk hs em L2_870 f2_870) := hw_870
          obtain ⟨v_870, w_870⟩ := hw_870
          have hv870 : x_870 = iI (↑(rkX Z h)) := v_870.trans (congrArg (fun z : Nat => iI ↑z) r1)
          obtain ⟨hSP3, ht3⟩ := SM_rak0 hI hh2 hne q9 w_870
          have hm3 := hmt.trans ht3
          refine lv_iload hx hb dL_law_873 (lv_at hl 2 rfl) ?_
          refine lz_icmp_ne (tgt := 933) hx hb hv870 hv835 ⟨by omega, by omega⟩ dL_law_875 (by decide) (fun c_875 => ?_) (fun c_875 => ?_)
          · exfalso; omega
          · refine lv_aload_n hx hb dL_law_878 rfl (lv_at hl 4 rfl) ?_
            refine lv_iload hx hb dL_law_879 (lv_at hl 2 rfl) ?_
            refine lz_iconst hx hb dL_law_881 (fun x_881 v_881 => ?_)
            refine cr_i (va_runV (As := [.int x_835, .int x_881]) (rest := []) ⟨hx, hb, hml, hown, hts⟩ (k_X3_told_P l D cI cZ cJ cK _ x_835 x_881 ad (rakA Z h) cx2_859 (rkX Z h) 4 (c_859) (hI2) (hv835.trans (congrArg iI (by omega))) (w3) (v_881.trans (congrArg iI (by omega))) (by omega)) (cwV 2 hts (gV qw369 qw370 qw371 qw10 qw372) rfl rfl rfl (by decide +kernel) ⟨Nat.le_of_ble_eq_true rfl, Nat.le_of_ble_eq_true rfl⟩) (pvP (ci := 3) (r := (RX3, TX3, 5)) (q0 := 0) (wr := ([(t1, .inr (4, [.ref lw, .ref rk, .ref hs, .ref em, .int mt, .int qn]))] ++ va_pl L2_870 f2_870)) hP hD hK hT hZ hS List.perm_append_comm rfl rfl) rfl rfl hl.1 rfl (lv_room (Nat.le_of_ble_eq_true rfl)) dL_law_882 ⟨(by show ((((cells + 1) + 1) + 1) + 82) ≤ 600130; omega), (by show ((((slots + 6) + 6) + 6) + 3240) ≤ 7301080; omega)⟩) hS hP (fun x_882 H locs hw_882 hP hS => ?_)
            replace hw_882 : (x_882 = toV (aH (rakA Z h) (rkX Z h)) (aV (rakA Z h) (rkX Z h)) (bkA (aV (rakA Z h) (rkX Z h)) (aL (rakA Z h) 0) (aL (rakA Z h) 1) (aH (rakA Z h) (rkX Z h))) (aM (rakA Z h) (rkX Z h)) (aK (rakA Z h) (rkX Z h)) 4) := hw_882
            have v_882 := hw_882
            have hv882 : x_882 = iI (1) := v_882.trans ((toV_n.2.2.2.2 rfl).trans (congrArg iI (va_up_self _ _ _)))
            refine lz_iconst hx hb dL_law_885 (fun x_885 v_885 => ?_)
            refine lz_icmp_ne (tgt := 933) hx hb hv882 v_885 ⟨by omega, by omega⟩ dL_law_886 (by decide) (fun c_886 => ?_) (fun c_886 => ?_)
            · exfalso; omega
            · refine lv_aload_n hx hb dL_law_889 rfl (lv_at hl 4 rfl) ?_
              refine lv_iload hx hb dL_law_890 (lv_at hl 7 rfl) ?_
              refine lz_iconst hx hb dL_law_892 (fun x_892 v_892 => ?_)
              refine cr_i (va_runV (As := [.int hh0, .int x_892]) (rest := []) ⟨hx, hb, hml, hown, hts⟩ (k_X3_about_P l D cI cZ cJ cK _ hh0 x_892 ad (rakA Z h) cx2_859 h 1 (c_859) (hI2) (hhv.trans (congrArg iI (by omega))) (by omega) (v_892.trans (congrArg iI (by omega))) (by omega)) (cwV 2 hts (gV qw344 qw345 qw346 qw10 qw347) rfl rfl rfl (by decide +kernel) ⟨Nat.le_of_ble_eq_true rfl, Nat.le_of_ble_eq_true rfl⟩) (pvP (ci := 3) (r := (RX3, TX3, 5)) (q0 := 0) (wr := ([(t1, .inr (4, [.ref lw, .ref rk, .ref hs, .ref em, .int mt, .int qn]))] ++ va_pl L2_870 f2_870)) hP hD hK hT hZ hS List.perm_append_comm rfl rfl) rfl rfl hl.1 rfl (lv_room (Nat.le_of_ble_eq_true rfl)) dL_law_893 ⟨(by show ((((cells + 1) + 1) + 1) + 82) ≤ 600130; omega), (by show ((((slots + 6) + 6) + 6) + 3240) ≤ 7301080; omega)⟩) hS hP (fun x_893 H locs hw_893 hP hS => ?_)
              replace hw_893 : (x_893 = abV (aL (rakA Z h) h) (aH (rakA Z h)) (aR (rakA Z h) h) (aG (rakA Z h) h) 1) := hw_893
              have v_893 := hw_893
              have hv893 : x_893 = iI (↑(aL (rakA Z h) h)) := v_893.trans (abV_n.2.1 rfl)
              refine lv_aload_n hx hb dL_law_896 rfl (lv_at hl 4 rfl) ?_
              refine lv_iload hx hb dL_law_897 (lv_at hl 2 rfl) ?_
              refine lz_iconst hx hb dL_law_899 (fun x_899 v_899 => ?_)
              refine cr_i (va_runV (As := [.int x_835, .int x_899]) (rest := [.int x_893]) ⟨hx, hb, hml, hown, hts⟩ (k_X3_told_P l D cI cZ cJ cK _ x_835 x_899 ad (rakA Z h) cx2_859 (rkX Z h) 0 (c_859) (hI2) (hv835.trans (congrArg iI (by omega))) (w3) (v_899.trans (congrArg iI (by omega))) (by omega)) (cwV 2 hts (gV qw369 qw370 qw371 qw10 qw372) rfl rfl rfl (by decide +kernel) ⟨Nat.le_of_ble_eq_true rfl, Nat.le_of_ble_eq_true rfl⟩) (pvP (ci := 3) (r := (RX3, TX3, 5)) (q0 := 0) (wr := ([(t1, .inr (4, [.ref lw, .ref rk, .ref hs, .ref em, .int mt, .int qn]))] ++ va_pl L2_870 f2_870)) hP hD hK hT hZ hS List.perm_append_comm rfl rfl) rfl rfl hl.1 rfl (lv_room (Nat.le_of_ble_eq_true rfl)) dL_law_900 ⟨(by show ((((cells + 1) + 1) + 1) + 82) ≤ 600130; omega), (by show ((((slots + 6) + 6) + 6) + 3240) ≤ 7301080; omega)⟩) hS hP (fun x_900 H locs hw_900 hP hS => ?_)
              replace hw_900 : (x_900 = toV (aH (rakA Z h) (rkX Z h)) (aV (rakA Z h) (rkX Z h)) (bkA (aV (rakA Z h) (rkX Z h)) (aL (rakA Z h) 0) (aL (rakA Z h) 1) (aH (rakA Z h) (rkX Z h))) (aM (rakA Z h) (rkX Z h)) (aK (rakA Z h) (rkX Z h)) 0) := hw_900
              have v_900 := hw_900
              have hv900 : x_900 = iI (↑(aH Z (rkX Z h))) := v_900.trans ((toV_n.1 rfl))
              refine lz_icmp_ne (tgt := 933) hx hb hv893 hv900 ⟨by omega, by omega⟩ dL_law_903 (by decide) (fun c_903 => ?_) (fun c_903 => ?_)
              · exfalso; omega
              · refine lv_aload_n hx hb dL_law_906 rfl (lv_at hl 4 rfl) ?_
                refine lz_iconst hx hb dL_law_907 (fun x_907 v_907 => ?_)
                refine cr_i (va_runV (As := [.int x_907]) (rest := []) ⟨hx, hb, hml, hown, hts⟩ (k_X3_count_P l D cI cZ cJ cK _ x_907 ad (rakA Z h) cx2_859 2 (c_859) (hI2) (v_907.trans (congrArg iI (by omega))) (by omega)) (cwV 1 hts (gV qw397 qw398 qw399 qw10 qw400) rfl rfl rfl (by decide +kernel) ⟨Nat.le_of_ble_eq_true rfl, Nat.le_of_ble_eq_true rfl⟩) (pvP (ci := 3) (r := (RX3, TX3, 5)) (q0 := 0) (wr := ([(t1, .inr (4, [.ref lw, .ref rk, .ref hs, .ref em, .int mt, .int qn]))] ++ va_pl L2_870 f2_870)) hP hD hK hT hZ hS List.perm_append_comm rfl rfl) rfl rfl hl.1 rfl (lv_room (Nat.le_of_ble_eq_true rfl)) dL_law_908 ⟨(by show ((((cells + 1) + 1) + 1) + 82) ≤ 600130; omega), (by show ((((slots + 6) + 6) + 6) + 3240) ≤ 7301080; omega)⟩) hS hP (fun x_908 H locs hw_908 hP hS => ?_)
                replace hw_908 : (x_908 = coV (aN (rakA Z h)) ((aR (rakA Z h) 0).length + (aR (rakA Z h) 1).length) (aT (rakA Z h)) (aG (rakA Z h) 0 + aG (rakA Z h) 1) (aQ (rakA Z h)) 2) := hw_908
                have v_908 := hw_908
                have hv908 : x_908 = aT Z + iI ↑(rkB (aL Z h) (aH Z) (aR Z h)).length := v_908.trans (coV_n.2.2.1 rfl)
                refine lv_iload hx hb dL_law_911 (lv_at hl 0 rfl) ?_
                refine lv_iload hx hb dL_law_913 (lv_at hl 1 rfl) ?_
                refine lv_iadd hx hb dL_law_915 ?_
                refine lv_topi (fun x_915 e_915 => ?_)
                refine lv_icmp_ne (tgt := 933) hx hb dL_law_916 (by decide) (fun c_916 => ?_) (fun c_916 => ?_)
                · exfalso; exact c_916 (by rw [hv908, e_915, hv851, hv844])
                · refine lv_aload_n hx hb dL_law_919 rfl (lv_at hl 4 rfl) ?_
                  refine lv_iload hx hb dL_law_920 (lv_at hl 7 rfl) ?_
                  refine lz_iconst hx hb dL_law_922 (fun x_922 v_922 => ?_)
                  refine cr_i (va_runV (As := [.int hh0, .int x_922]) (rest := []) ⟨hx, hb, hml, hown, hts⟩ (k_X3_about_P l D cI cZ cJ cK _ hh0 x_922 ad (rakA Z h) cx2_859 h 0 (c_859) (hI2) (hhv.trans (congrArg iI (by omega))) (by omega) (v_922.trans (congrArg iI (by omega))) (by omega)) (cwV 2 hts (gV qw344 qw345 qw346 qw10 qw347) rfl rfl rfl (by decide +kernel) ⟨Nat.le_of_ble_eq_true rfl, Nat.le_of_ble_eq_true rfl⟩) (pvP (ci := 3) (r := (RX3, TX3, 5)) (q0 := 0) (wr := ([(t1, .inr (4, [.ref lw, .ref rk, .ref hs, .ref em, .int mt, .int qn]))] ++ va_pl L2_870 f2_870)) hP hD hK hT hZ hS List.perm_append_comm rfl rfl) rfl rfl hl.1 rfl (lv_room (Nat.le_of_ble_eq_true rfl)) dL_law_923 ⟨(by show ((((cells + 1) + 1) + 1) + 82) ≤ 600130; omega), (by show ((((slots + 6) + 6) + 6) + 3240) ≤ 7301080; omega)⟩) hS hP (fun x_923 H locs hw_923 hP hS => ?_)
                  replace hw_923 : (x_923 = abV (aL (rakA Z h) h) (aH (rakA Z h)) (aR (rakA Z h) h) (aG (rakA Z h) h) 0) := hw_923
                  have v_923 := hw_923
                  have hv923 : x_923 = iI (↑(aR (rakA Z h) h).length) := v_923.trans (abV_n.1 rfl)
                  refine lv_iload hx hb dL_law_926 (lv_at hl 8 rfl) ?_
                  refine lz_iconst hx hb dL_law_928 (fun x_928 v_928 => ?_)
                  refine lz_isub hx hb hsz v_928 dL_law_929 (fun x_929 v_929 => ?_)
                  refine lz_icmp_eq (tgt := 935) hx hb hv923 v_929 ⟨by omega, by omega⟩ dL_law_930 (by decide) (fun c_930 => ?_) (fun c_930 => ?_)
                  · refine W.widen (k := cells + 85) (n := slots + 3258) (by omega) (by omega) ?_
                    exact kk (rakA Z h) cx2_859 mt L2_870 f2_870 _ _ _ (c_859) (hI2) (PI_rak hI hPI hh2 hne) (hSP3) (hm3) (hqn) hP hD hS (lv_sub hl [3, 4, 5, 6] rfl)
                  · exfalso; omega
        · obtain ⟨k1, k2, k3, k4⟩ := RK_fst hI hh2 hne
          obtain ⟨r1, r2, r3, r4, r5, r6, r7, r8⟩ := RS_rakp hI hh2 hne rfl q9 rfl
          refine cp_i (wr := (clsW cI cZ ad cx2_859)) (ws2 := fun u9 => ((clsW cI cZ ad cx2_859) ++ ([(t1, .inr (4, [.ref lw, .ref rk, .ref hs, .ref em, .int u9.1, .int qn]))] ++ va_pl u9.2.1 u9.2.2))) (va_runV (As := [.int hh0]) (rest := []) ⟨hx, hb, hml, hown, hts⟩ (k_X4_rake_p l D cI cZ cJ cK _ t1 hh0 lw rk hs em mt qn L f h (rkF (aL Z h) (aH Z) (aR Z h)) (aN Z) (aH Z) (aM Z) (aK Z) (aL Z) (aG Z) (rwA Z) (hSP) (hhv.trans (congrArg iI (by omega))) (hh2) (k1) (by omega) (k2) (k4) (m40) (r2) (fun x hx9 => m2 x (r3 x hx9)) (r4) (fun x hx9 => m2 x (rw_mem.mp hx9).1) (fun e he => (hI.2.1 e he).1) (r7) (rw40 hI h hh2 _) (fun b _ => rw40 hI h hh2 b)) (cwV 1 hts (gV qw459 qw460 qw461 qw14 qw462) rfl rfl rfl (by decide +kernel) ⟨Nat.le_of_ble_eq_true rfl, Nat.le_of_ble_eq_true rfl⟩) (pvP (ci := 4) (r := (RX4, TX4, 6)) (q0 := 24) (wr := (clsW cI cZ ad cx2_859)) hP hD hK hT hZ hS (List.Perm.refl _) rfl rfl) rfl rfl hl.1 rfl (lv_room (Nat.le_of_ble_eq_true rfl)) dL_law_870 ⟨(by show ((((cells + 1) + 1) + 1) + 82) ≤ 600130; omega), (by show ((((slots + 6) + 6) + 6) + 3240) ≤ 7301080; omega)⟩) hS hP hD hA (List.Perm.refl _) (fun _ => List.Perm.refl _) (fun x_870 u_870 H locs hw_870 hP hD hS => ?_)
          obtain ⟨m2_870, L2_870, f2_870⟩ := u_870
          have hP : va_P D vwCl ((clsW cI cZ ad cx2_859) ++ ([(t1, .inr (4, [.ref lw, .ref rk, .ref hs, .ref em, .int m2_870, .int qn]))] ++ va_pl L2_870 f2_870)) H := hP
          have hD : va_D A ((clsW cI cZ ad cx2_859) ++ ([(t1, .inr (4, [.ref lw, .ref rk, .ref hs, .ref em, .int m2_870, .int qn]))] ++ va_pl L2_870 f2_870)) := hD
          replace hw_870 : (x_870 = iI (↑(((mvR (ka (minL (aH Z) ((rwA Z) h (rkF (aL Z h) (aH Z) (aR Z h)))) (aH Z)) h (va_up (rwA Z) h (va_up ((rwA Z) h) (rkF (aL Z h) (aH Z) (aR Z h)) [])) ((rwA Z) h (rkF (aL Z h) (aH Z) (aR Z h)))) h 0).getD 0 0))) ∧ (SimP cI cJ cK (aN Z) (aH Z) (mvA 1 (aM Z) ((rwA Z) h (rkF (aL Z h) (aH Z) (aR Z h)))) (va_up (aK Z) (((mvR (ka (minL (aH Z) ((rwA Z) h (rkF (aL Z h) (aH Z) (aR Z h)))) (aH Z)) h (va_up (rwA Z) h (va_up ((rwA Z) h) (rkF (aL Z h) (aH Z) (aR Z h)) [])) ((rwA Z) h (rkF (aL Z h) (aH Z) (aR Z h)))) h 0).getD 0 0) 1) (va_up (aL Z) h (minL (aH Z) ((rwA Z) h (rkF (aL Z h) (aH Z) (aR Z h))))) (upd (aG Z) h ((aG Z) h + iI 1)) (va_up (mvR (ka (minL (aH Z) ((rwA Z) h (rkF (aL Z h) (aH Z) (aR Z h)))) (aH Z)) h (va_up (rwA Z) h (va_up ((rwA Z) h) (rkF (aL Z h) (aH Z) (aR Z h)) [])) ((rwA Z) h (rkF (aL Z h) (aH Z) (aR Z h)))) h (va_up ((mvR (ka (minL (aH Z) ((rwA Z) h (rkF (aL Z h) (aH Z) (aR Z h)))) (aH Z)) h (va_up (rwA Z) h (va_up ((rwA Z) h) (rkF (aL Z h) (aH Z) (aR Z h)) [])) ((rwA Z) h (rkF (aL Z h) (aH Z) (aR Z h)))) h) 0 (((mvR (ka (minL (aH Z) ((rwA Z) h (rkF (aL Z h) (aH Z) (aR Z h)))) (aH Z)) h (va_up (rwA Z) h (va_up ((rwA Z) h) (rkF (aL Z h) (aH Z) (aR Z h)) [])) ((rwA Z) h (rkF (aL Z h) (aH Z) (aR Z h)))) h 0).filter (fun y => decide (y ≠ (((mvR (ka (minL (aH Z) ((rwA Z) h (rkF (aL Z h) (aH Z) (aR Z h)))) (aH Z)) h (va_up (rwA Z) h (va_up ((rwA Z) h) (rkF (aL Z h) (aH Z) (aR Z h)) [])) ((rwA Z) h (rkF (aL Z h) (aH Z) (aR Z h)))) h 0).getD 0 0)))))) lw rk hs em L2_870 f2_870) ∧ (m2_870 = mt + iI ↑((rwA Z) h (rkF (aL Z h) (aH Z) (aR Z h))).length) := hw_870
          obtain ⟨v_870, w_870, m_870⟩ := hw_870
          have hv870 : x_870 = iI (↑(rkX Z h)) := v_870.trans (congrArg (fun z : Nat => iI ↑z) r1)
          obtain ⟨hSP3, ht3⟩ := SM_rakp hI hh2 hne q9 rfl rfl w_870
          have hm3 := m_870.trans ((congrArg (fun z => z + _) hmt).trans ht3)
          refine lv_iload hx hb dL_law_873 (lv_at hl 2 rfl) ?_
          refine lz_icmp_ne (tgt := 933) hx hb hv870 hv835 ⟨by omega, by omega⟩ dL_law_875 (by decide) (fun c_875 => ?_) (fun c_875 => ?_)
          · exfalso; omega
          · refine lv_aload_n hx hb dL_law_878 rfl (lv_at hl 4 rfl) ?_
            refine lv_iload hx hb dL_law_879 (lv_at hl 2 rfl) ?_
            refine lz_iconst hx hb dL_law_881 (fun x_881 v_881 => ?_)
            refine cr_i (va_runV (As := [.int x_835, .int x_881]) (rest := []) ⟨hx, hb, hml, hown, hts⟩ (k_X3_told_P l D cI cZ cJ cK _ x_835 x_881 ad (rakA Z h) cx2_859 (rkX Z h) 4 (c_859) (hI2) (hv835.trans (congrArg iI (by omega))) (w3) (v_881.trans (congrArg iI (by omega))) (by omega)) (cwV 2 hts (gV qw369 qw370 qw371 qw10 qw372) rfl rfl rfl (by decide +kernel) ⟨Nat.le_of_ble_eq_true rfl, Nat.le_of_ble_eq_true rfl⟩) (pvP (ci := 3) (r := (RX3, TX3, 5)) (q0 := 0) (wr := ([(t1, .inr (4, [.ref lw, .ref rk, .ref hs, .ref em, .int m2_870, .int qn]))] ++ va_pl L2_870 f2_870)) hP hD hK hT hZ hS List.perm_append_comm rfl rfl) rfl rfl hl.1 rfl (lv_room (Nat.le_of_ble_eq_true rfl)) dL_law_882 ⟨(by show ((((cells + 1) + 1) + 1) + 82) ≤ 600130; omega), (by show ((((slots + 6) + 6) + 6) + 3240) ≤ 7301080; omega)⟩) hS hP (fun x_882 H locs hw_882 hP hS => ?_)
            replace hw_882 : (x_882 = toV (aH (rakA Z h) (rkX Z h)) (aV (rakA Z h) (rkX Z h)) (bkA (aV (rakA Z h) (rkX Z h)) (aL (rakA Z h) 0) (aL (rakA Z h) 1) (aH (rakA Z h) (rkX Z h))) (aM (rakA Z h) (rkX Z h)) (aK (rakA Z h) (rkX Z h)) 4) := hw_882
            have v_882 := hw_882
            have hv882 : x_882 = iI (1) := v_882.trans ((toV_n.2.2.2.2 rfl).trans (congrArg iI (va_up_self _ _ _)))
            refine lz_iconst hx hb dL_law_885 (fun x_885 v_885 => ?_)
            refine lz_icmp_ne (tgt := 933) hx hb hv882 v_885 ⟨by omega, by omega⟩ dL_law_886 (by decide) (fun c_886 => ?_) (fun c_886 => ?_)
            · exfalso; omega
            · refine lv_aload_n hx hb dL_law_889 rfl (lv_at hl 4 rfl) ?_
              refine lv_iload hx hb dL_law_890 (lv_at hl 7 rfl) ?_
              refine lz_iconst hx hb dL_law_892 (fun x_892 v_892 => ?_)
              refine cr_i (va_runV (As := [.int hh0, .int x_892]) (rest := []) ⟨hx, hb, hml, hown, hts⟩ (k_X3_about_P l D cI cZ cJ cK _ hh0 x_892 ad (rakA Z h) cx2_859 h 1 (c_859) (hI2) (hhv.trans (congrArg iI (by omega))) (by omega) (v_892.trans (congrArg iI (by omega))) (by omega)) (cwV 2 hts (gV qw344 qw345 qw346 qw10 qw347) rfl rfl rfl (by decide +kernel) ⟨Nat.le_of_ble_eq_true rfl, Nat.le_of_ble_eq_true rfl⟩) (pvP (ci := 3) (r := (RX3, TX3, 5)) (q0 := 0) (wr := ([(t1, .inr (4, [.ref lw, .ref rk, .ref hs, .ref em, .int m2_870, .int qn]))] ++ va_pl L2_870 f2_870)) hP hD hK hT hZ hS List.perm_append_comm rfl rfl) rfl rfl hl.1 rfl (lv_room (Nat.le_of_ble_eq_true rfl)) dL_law_893 ⟨(by show ((((cells + 1) + 1) + 1) + 82) ≤ 600130; omega), (by show ((((slots + 6) + 6) + 6) + 3240) ≤ 7301080; omega)⟩) hS hP (fun x_893 H locs hw_893 hP hS => ?_)
              replace hw_893 : (x_893 = abV (aL (rakA Z h) h) (aH (rakA Z h)) (aR (rakA Z h) h) (aG (rakA Z h) h) 1) := hw_893
              have v_893 := hw_893
              have hv893 : x_893 = iI (↑(aL (rakA Z h) h)) := v_893.trans (abV_n.2.1 rfl)
              refine lv_aload_n hx hb dL_law_896 rfl (lv_at hl 4 rfl) ?_
              refine lv_iload hx hb dL_law_897 (lv_at hl 2 rfl) ?_
              refine lz_iconst hx hb dL_law_899 (fun x_899 v_899 => ?_)
              refine cr_i (va_runV (As := [.int x_835, .int x_899]) (rest := [.int x_893]) ⟨hx, hb, hml, hown, hts⟩ (k_X3_told_P l D cI cZ cJ cK _ x_835 x_899 ad (rakA Z h) cx2_859 (rkX Z h) 0 (c_859) (hI2) (hv835.trans (congrArg iI (by omega))) (w3) (v_899.trans (congrArg iI (by omega))) (by omega)) (cwV 2 hts (gV qw369 qw370 qw371 qw10 qw372) rfl rfl rfl (by decide +kernel) ⟨Nat.le_of_ble_eq_true rfl, Nat.le_of_ble_eq_true rfl⟩) (pvP (ci := 3) (r := (RX3, TX3, 5)) (q0 := 0) (wr := ([(t1, .inr (4, [.ref lw, .ref rk, .ref hs, .ref em, .int m2_870, .int qn]))] ++ va_pl L2_870 f2_870)) hP hD hK hT hZ hS List.perm_append_comm rfl rfl) rfl rfl hl.1 rfl (lv_room (Nat.le_of_ble_eq_true rfl)) dL_law_900 ⟨(by show ((((cells + 1) + 1) + 1) + 82) ≤ 600130; omega), (by show ((((slots + 6) + 6) + 6) + 3240) ≤ 7301080; omega)⟩) hS hP (fun x_900 H locs hw_900 hP hS => ?_)
              replace hw_900 : (x_900 = toV (aH (rakA Z h) (rkX Z h)) (aV (rakA Z h) (rkX Z h)) (bkA (aV (rakA Z h) (rkX Z h)) (aL (rakA Z h) 0) (aL (rakA Z h) 1) (aH (rakA Z h) (rkX Z h))) (aM (rakA Z h) (rkX Z h)) (aK (rakA Z h) (rkX Z h)) 0) := hw_900
              have v_900 := hw_900
              have hv900 : x_900 = iI (↑(aH Z (rkX Z h))) := v_900.trans ((toV_n.1 rfl))
              refine lz_icmp_ne (tgt := 933) hx hb hv893 hv900 ⟨by omega, by omega⟩ dL_law_903 (by decide) (fun c_903 => ?_) (fun c_903 => ?_)
              · exfalso; omega
              · refine lv_aload_n hx hb dL_law_906 rfl (lv_at hl 4 rfl) ?_
                refine lz_iconst hx hb dL_law_907 (fun x_907 v_907 => ?_)
                refine cr_i (va_runV (As := [.int x_907]) (rest := []) ⟨hx, hb, hml, hown, hts⟩ (k_X3_count_P l D cI cZ cJ cK _ x_907 ad (rakA Z h) cx2_859 2 (c_859) (hI2) (v_907.trans (congrArg iI (by omega))) (by omega)) (cwV 1 hts (gV qw397 qw398 qw399 qw10 qw400) rfl rfl rfl (by decide +kernel) ⟨Nat.le_of_ble_eq_true rfl, Nat.le_of_ble_eq_true rfl⟩) (pvP (ci := 3) (r := (RX3, TX3, 5)) (q0 := 0) (wr := ([(t1, .inr (4, [.ref lw, .ref rk, .ref hs, .ref em, .int m2_870, .int qn]))] ++ va_pl L2_870 f2_870)) hP hD hK hT hZ hS List.perm_append_comm rfl rfl) rfl rfl hl.1 rfl (lv_room (Nat.le_of_ble_eq_true rfl)) dL_law_908 ⟨(by show ((((cells + 1) + 1) + 1) + 82) ≤ 600130; omega), (by show ((((slots + 6) + 6) + 6) + 3240) ≤ 7301080; omega)⟩) hS hP (fun x_908 H locs hw_908 hP hS => ?_)
                replace hw_908 : (x_908 = coV (aN (rakA Z h)) ((aR (rakA Z h) 0).length + (aR (rakA Z h) 1).length) (aT (rakA Z h)) (aG (rakA Z h) 0 + aG (rakA Z h) 1) (aQ (rakA Z h)) 2) := hw_908
                have v_908 := hw_908
                have hv908 : x_908 = aT Z + iI ↑(rkB (aL Z h) (aH Z) (aR Z h)).length := v_908.trans (coV_n.2.2.1 rfl)
                refine lv_iload hx hb dL_law_911 (lv_at hl 0 rfl) ?_
                refine lv_iload hx hb dL_law_913 (lv_at hl 1 rfl) ?_
                refine lv_iadd hx hb dL_law_915 ?_
                refine lv_topi (fun x_915 e_915 => ?_)
                refine lv_icmp_ne (tgt := 933) hx hb dL_law_916 (by decide) (fun c_916 => ?_) (fun c_916 => ?_)
                · exfalso; exact c_916 (by rw [hv908, e_915, hv851, hv844])
                · refine lv_aload_n hx hb dL_law_919 rfl (lv_at hl 4 rfl) ?_
                  refine lv_iload hx hb dL_law_920 (lv_at hl 7 rfl) ?_
                  refine lz_iconst hx hb dL_law_922 (fun x_922 v_922 => ?_)
                  refine cr_i (va_runV (As := [.int hh0, .int x_922]) (rest := []) ⟨hx, hb, hml, hown, hts⟩ (k_X3_about_P l D cI cZ cJ cK _ hh0 x_922 ad (rakA Z h) cx2_859 h 0 (c_859) (hI2) (hhv.trans (congrArg iI (by omega))) (by omega) (v_922.trans (congrArg iI (by omega))) (by omega)) (cwV 2 hts (gV qw344 qw345 qw346 qw10 qw347) rfl rfl rfl (by decide +kernel) ⟨Nat.le_of_ble_eq_true rfl, Nat.le_of_ble_eq_true rfl⟩) (pvP (ci := 3) (r := (RX3, TX3, 5)) (q0 := 0) (wr := ([(t1, .inr (4, [.ref lw, .ref rk, .ref hs, .ref em, .int m2_870, .int qn]))] ++ va_pl L2_870 f2_870)) hP hD hK hT hZ hS List.perm_append_comm rfl rfl) rfl rfl hl.1 rfl (lv_room (Nat.le_of_ble_eq_true rfl)) dL_law_923 ⟨(by show ((((cells + 1) + 1) + 1) + 82) ≤ 600130; omega), (by show ((((slots + 6) + 6) + 6) + 3240) ≤ 7301080; omega)⟩) hS hP (fun x_923 H locs hw_923 hP hS => ?_)
                  replace hw_923 : (x_923 = abV (aL (rakA Z h) h) (aH (rakA Z h)) (aR (rakA Z h) h) (aG (rakA Z h) h) 0) := hw_923
                  have v_923 := hw_923
                  have hv923 : x_923 = iI (↑(aR (rakA Z h) h).length) := v_923.trans (abV_n.1 rfl)
                  refine lv_iload hx hb dL_law_926 (lv_at hl 8 rfl) ?_
                  refine lz_iconst hx hb dL_law_928 (fun x_928 v_928 => ?_)
                  refine lz_isub hx hb hsz v_928 dL_law_929 (fun x_929 v_929 => ?_)
                  refine lz_icmp_eq (tgt := 935) hx hb hv923 v_929 ⟨by omega, by omega⟩ dL_law_930 (by decide) (fun c_930 => ?_) (fun c_930 => ?_)
                  · refine W.widen (k := cells + 85) (n := slots + 3258) (by omega) (by omega) ?_
                    exact kk (rakA Z h) cx2_859 m2_870 L2_870 f2_870 _ _ _ (c_859) (hI2) (PI_rak hI hPI hh2 hne) (hSP3) (hm3) (hqn) hP hD hS (lv_sub hl [3, 4, 5, 6] rfl)
                  · exfalso; omega
    · refine lv_goto (tgt := 935) hx hb dL_law_828 (by decide) ?_
      refine W.widen (k := cells + 85) (n := slots + 3258) (by omega) (by omega) ?_
      exact kk Z cx mt L f _ _ _ (hC) (hI) (hPI) (hSP) (hmt) (hqn) hP hD hS (lv_sub hl [0, 1, 2, 3] rfl)
