set_option maxHeartbeats 4000000 in
set_option maxRecDepth 100000 in
theorem t_s4 {p : Program} {e : Env} {s : State} {m : MethodId} {args : Array Value} {below : List Frame} {meth : Method} {c : Code} {Q : State → Prop} {A : Nat → Prop} (l : Launch) (hl0 : l.stackTraces = false) (D : va_G) (cI cZ cJ cK : ClassId) (ad : Nat → Nat) (Z : va_AS) (cx : CX) (SP : va_W) (bs : Nat) (t1 : Nat) (tt : Int32) (h : Nat) (hh0 : Int32) (sz : Int32) (be : Int64) {H : Heap} {locs : List Loc} {ls : Array Slot} {cells slots : Nat}  (hx : p.tables.exec = Jvm.exec) (hb : c.code = cL_law) (hml : c.maxLocals = 22) (hown : s.vm.findClass RL = some m.cls) (hts : ∀ w ∈ lw_G, w.before args s = true) (hT : TW s) (hZ : ZW A s s.heap) (hK : va_K D vwCl (KT cI cZ cJ cK) s) (hA : ∀ q : Nat, s.heap.size ≤ q → A q) (hC : CStx Z cx) (hI : AI Z) (hPI : PI Z) (hh2 : h < 2) (hhv : hh0 = iI ↑h) (hsz : sz = iI ↑(aR Z h).length) (hbe : be = diF (aN Z) (aL Z 0) (aL Z 1) (aH Z) (aR Z 0) (aR Z 1) (aV Z) (aK Z) (aM Z) (aT Z) (aG Z 0) (aG Z 1) (aG Z 0 + aG Z 1) (aQ Z)) (hP : va_P D vwCl ((clsW cI cZ ad cx) ++ SP) H) (hD : va_D A ((clsW cI cZ ad cx) ++ SP)) (hS : va_S A s.heap H locs) (hl : lv_has ls 22 [(0, .ref bs), (1, .ref (ad 0)), (2, .ref t1), (3, .int tt), (12, .int hh0), (13, .int sz), (14, .long be)]) (hcc : cells + 0 ≤ 600130) (hss : slots + 0 ≤ 7301080) (kk : ∀ (cx9 : CX) (H : Heap) (locs : List Loc) (ls : Array Slot), (CStx Z cx9) → va_P D vwCl ((clsW cI cZ ad cx9) ++ SP) H → va_D A ((clsW cI cZ ad cx9) ++ SP) → va_S A s.heap H locs → lv_has ls 22 [(0, .ref bs), (1, .ref (ad 0)), (2, .ref t1), (3, .int tt), (12, .int hh0), (13, .int sz)] → W p l e room_1 s m args below meth c H locs (cells + 0) (slots + 0) Q (F0 m 817 ls [])) : W p l e room_1 s m args below meth c H locs cells slots Q (F0 m 764 ls []) := by
  have m40 := hI.1
  obtain ⟨m1, m2, m3⟩ := AI_len hI hh2
  refine lv_aload_n hx hb dL_law_764 rfl (lv_at hl 1 rfl) ?_
  refine lv_iload hx hb dL_law_765 (lv_at hl 4 rfl) ?_
  refine cp_i (wr := SP) (ws2 := fun u9 => ((clsW cI cZ ad u9) ++ SP)) (va_runV (As := [.int hh0]) (rest := []) ⟨hx, hb, hml, hown, hts⟩ (k_X3_advise_P l D cI cZ cJ cK _ hh0 ad Z cx h hC hI (hhv.trans (congrArg iI (by omega))) (by omega)) (cwV 1 hts (gV qw438 qw439 qw440 qw10 qw441) rfl rfl rfl (by decide +kernel) ⟨Nat.le_of_ble_eq_true rfl, Nat.le_of_ble_eq_true rfl⟩) (pvP (ci := 3) (r := (RX3, TX3, 5)) (q0 := 0) (wr := SP) hP hD hK hT hZ hS List.perm_append_comm rfl rfl) rfl rfl hl.1 rfl (lv_room (Nat.le_of_ble_eq_true rfl)) dL_law_767 ⟨(by show cells ≤ 600130; omega), (by show slots ≤ 7301080; omega)⟩) hS hP hD hA List.perm_append_comm (fun _ => List.perm_append_comm) (fun x_767 u_767 H locs hw_767 hP hD hS => ?_)
  obtain ⟨cx2_767, rfl⟩ : ∃ z, z = u_767 := ⟨_, rfl⟩
  have hP : va_P D vwCl ((clsW cI cZ ad cx2_767) ++ SP) H := hP
  have hD : va_D A ((clsW cI cZ ad cx2_767) ++ SP) := hD
  replace hw_767 : (x_767 = iI ((advI (aL Z h) (aH Z) (aR Z h) (aN Z)).1)) ∧ (CStx Z cx2_767) := hw_767
  obtain ⟨v_767, c_767⟩ := hw_767
  have hC := c_767
  refine lv_istore (lv' := [(18, .int x_767), (0, .ref bs), (1, .ref (ad 0)), (2, .ref t1), (3, .int tt), (12, .int hh0), (13, .int sz), (14, .long be)]) hx hb dL_law_770 hl (by decide) rfl (fun ls hl => ?_)
  rcases adv_of hI hh2 with ⟨ae, av⟩ | ⟨j, aj, av⟩
  · have hz9 : (aR Z h).length = 0 := by rw [ae]; rfl
    refine lv_iload hx hb dL_law_772 (lv_at hl 6 rfl) ?_
    refine lz_if_ne (tgt := 786) hx hb hsz (by omega) dL_law_774 (by decide) (fun c_774 => ?_) (fun c_774 => ?_)
    · exfalso; omega
    · refine lv_iload hx hb dL_law_777 (lv_at hl 0 rfl) ?_
      refine lz_iconst hx hb dL_law_779 (fun x_779 v_779 => ?_)
      refine lz_icmp_eq (tgt := 805) hx hb v_767 v_779 ⟨by omega, by omega⟩ dL_law_780 (by decide) (fun c_780 => ?_) (fun c_780 => ?_)
      · refine lv_aload_n hx hb dL_law_805 rfl (lv_at hl 2 rfl) ?_
        refine cr_l (va_runV (As := []) (rest := []) ⟨hx, hb, hml, hown, hts⟩ (k_X3_digest_P l D cI cZ cJ cK _ ad Z cx2_767 hC hI) (cwV 0 hts (gV qw443 qw444 qw445 qw10 qw446) rfl rfl rfl (by decide +kernel) ⟨Nat.le_of_ble_eq_true rfl, Nat.le_of_ble_eq_true rfl⟩) (pvP (ci := 3) (r := (RX3, TX3, 5)) (q0 := 0) (wr := SP) hP hD hK hT hZ hS List.perm_append_comm rfl rfl) rfl rfl hl.1 rfl (lv_room (Nat.le_of_ble_eq_true rfl)) dL_law_806 ⟨(by show cells ≤ 600130; omega), (by show slots ≤ 7301080; omega)⟩) hS hP (fun x_806 H locs hw_806 hP hS => ?_)
        replace hw_806 : (x_806 = diF (aN Z) (aL Z 0) (aL Z 1) (aH Z) (aR Z 0) (aR Z 1) (aV Z) (aK Z) (aM Z) (aT Z) (aG Z 0) (aG Z 1) (aG Z 0 + aG Z 1) (aQ Z)) := hw_806
        have v_806 := hw_806
        refine lv_lload hx hb dL_law_809 (lv_at hl 7 rfl) ?_
        refine W.lcmp hx hb dL_law_811 ?_
        refine lv_topi (fun x_811 e_811 => ?_)
        have hv811 : x_811 = iI (0) := by
          rw [e_811, v_806, hbe]
          exact lg_same _
        refine lz_if_eq (tgt := 817) hx hb hv811 (by omega) dL_law_812 (by decide) (fun c_812 => ?_) (fun c_812 => ?_)
        · refine W.widen (k := cells + 0) (n := slots + 0) (by omega) (by omega) ?_
          exact kk cx2_767 _ _ _ (hC) hP hD hS (lv_sub hl [1, 2, 3, 4, 5, 6] rfl)
        · exfalso; omega
      · exfalso; omega
  · have hz9 := List.length_pos_of_mem aj
    obtain ⟨w1, w2, w3, w4, w5, w6⟩ := rw_in hI hh2 aj
    refine lv_iload hx hb dL_law_772 (lv_at hl 6 rfl) ?_
    refine lz_if_ne (tgt := 786) hx hb hsz (by omega) dL_law_774 (by decide) (fun c_774 => ?_) (fun c_774 => ?_)
    · refine lv_iload hx hb dL_law_786 (lv_at hl 0 rfl) ?_
      refine lz_if_lt (tgt := 803) hx hb v_767 (by omega) dL_law_788 (by decide) (fun c_788 => ?_) (fun c_788 => ?_)
      · exfalso; omega
      · refine lv_aload_n hx hb dL_law_791 rfl (lv_at hl 2 rfl) ?_
        refine lv_iload hx hb dL_law_792 (lv_at hl 0 rfl) ?_
        refine lz_iconst hx hb dL_law_794 (fun x_794 v_794 => ?_)
        refine cr_i (va_runV (As := [.int x_767, .int x_794]) (rest := []) ⟨hx, hb, hml, hown, hts⟩ (k_X3_told_P l D cI cZ cJ cK _ x_767 x_794 ad Z cx2_767 j 1 hC hI (v_767.trans (congrArg iI (by omega))) (by omega) (v_794.trans (congrArg iI (by omega))) (by omega)) (cwV 2 hts (gV qw369 qw370 qw371 qw10 qw372) rfl rfl rfl (by decide +kernel) ⟨Nat.le_of_ble_eq_true rfl, Nat.le_of_ble_eq_true rfl⟩) (pvP (ci := 3) (r := (RX3, TX3, 5)) (q0 := 0) (wr := SP) hP hD hK hT hZ hS List.perm_append_comm rfl rfl) rfl rfl hl.1 rfl (lv_room (Nat.le_of_ble_eq_true rfl)) dL_law_795 ⟨(by show cells ≤ 600130; omega), (by show slots ≤ 7301080; omega)⟩) hS hP (fun x_795 H locs hw_795 hP hS => ?_)
        replace hw_795 : (x_795 = toV (aH Z j) (aV Z j) (bkA (aV Z j) (aL Z 0) (aL Z 1) (aH Z j)) (aM Z j) (aK Z j) 1) := hw_795
        have v_795 := hw_795
        have hv795 : x_795 = iI (↑h) := v_795.trans ((toV_n.2.1 rfl).trans (congrArg iI w4))
        refine lv_iload hx hb dL_law_798 (lv_at hl 5 rfl) ?_
        refine lz_icmp_eq (tgt := 805) hx hb hv795 hhv ⟨by omega, by omega⟩ dL_law_800 (by decide) (fun c_800 => ?_) (fun c_800 => ?_)
        · refine lv_aload_n hx hb dL_law_805 rfl (lv_at hl 2 rfl) ?_
          refine cr_l (va_runV (As := []) (rest := []) ⟨hx, hb, hml, hown, hts⟩ (k_X3_digest_P l D cI cZ cJ cK _ ad Z cx2_767 hC hI) (cwV 0 hts (gV qw443 qw444 qw445 qw10 qw446) rfl rfl rfl (by decide +kernel) ⟨Nat.le_of_ble_eq_true rfl, Nat.le_of_ble_eq_true rfl⟩) (pvP (ci := 3) (r := (RX3, TX3, 5)) (q0 := 0) (wr := SP) hP hD hK hT hZ hS List.perm_append_comm rfl rfl) rfl rfl hl.1 rfl (lv_room (Nat.le_of_ble_eq_true rfl)) dL_law_806 ⟨(by show cells ≤ 600130; omega), (by show slots ≤ 7301080; omega)⟩) hS hP (fun x_806 H locs hw_806 hP hS => ?_)
          replace hw_806 : (x_806 = diF (aN Z) (aL Z 0) (aL Z 1) (aH Z) (aR Z 0) (aR Z 1) (aV Z) (aK Z) (aM Z) (aT Z) (aG Z 0) (aG Z 1) (aG Z 0 + aG Z 1) (aQ Z)) := hw_806
          have v_806 := hw_806
          refine lv_lload hx hb dL_law_809 (lv_at hl 7 rfl) ?_
          refine W.lcmp hx hb dL_law_811 ?_
          refine lv_topi (fun x_811 e_811 => ?_)
          have hv811 : x_811 = iI (0) := by
            rw [e_811, v_806, hbe]
            exact lg_same _
          refine lz_if_eq (tgt := 817) hx hb hv811 (by omega) dL_law_812 (by decide) (fun c_812 => ?_) (fun c_812 => ?_)
          · refine W.widen (k := cells + 0) (n := slots + 0) (by omega) (by omega) ?_
            exact kk cx2_767 _ _ _ (hC) hP hD hS (lv_sub hl [1, 2, 3, 4, 5, 6] rfl)
          · exfalso; omega
        · exfalso; omega
    · exfalso; omega
