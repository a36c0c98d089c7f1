set_option maxHeartbeats 4000000 in
set_option maxRecDepth 100000 in
theorem k_X1_emberAt (l : Launch) (D : va_G) (cI cZ cJ cK : ClassId) (hz9 : Nat) (h0 : Nat) (b0 : Int32) (k0 : Int32) (e0 : Nat) (nt : Int32) (w0 : Nat) (v0 : Nat) (sa : Nat) (lw : Int32) (mm : Int32) (rk : Int32) (wa : Nat) (sz : Int32) (f : Nat → Int32) (sf : Nat → Int32) (cn : Nat → Nat) (L : List Nat) (b k : Nat) (hrow : rowIs sz f L) (hsz : szC sf cn) (hbv : b0 = iI ↑b) (hkv : k0 = iI ↑k) (hb : b < 11) (hk : k < cn b) (hps : psum cn 11 ≤ L.length) : Met l yX1_emberAt (ws_ yX1_emberAt cX1_emberAt 3 (Option.some .int)) ({ frames := 1, cells := 0, slots := 0, locals := 23 }) (va_Pc [.ref h0, .int b0, .int k0] (wPre D cI cZ cJ cK hz9 [(h0, .inr (1, [.ref e0, .int nt, .ref w0, .ref v0, .ref sa, .int lw, .int mm, .int rk])), (w0, .inr (2, [.ref wa, .int sz])), (wa, .inl (cI, 40, .inl f)), (sa, .inl (cI, 11, .inl sf))])) (va_Qi (fun r (_ : Unit) => (r = iI (↑(L.getD (psum cn b + k) 0)))) (fun _ _ => True) (fun _ => False)) 0 0 (fun _ => False) := by
  refine Met.ofW (cc := cX1_emberAt) (maxL := 3) (ret := (Option.some .int)) (by decide) rfl ?_
  intro p e s m args below meth c s₁ hBd hml hv
  obtain ⟨rfl, hsz, hP, hD, hK, hT, hZ⟩ := hv
  have hx := hBd.exec
  have hb := hBd.bytes
  have hr := hBd.returns
  have hts : ∀ w ∈ lw_G, w.before _ s = true := fun w h => atoms_spec (ws := (ws_ yX1_emberAt cX1_emberAt 3 (Option.some .int))) hBd.pre w (List.mem_cons_of_mem _ h)
  have hown : s.vm.findClass RX1 = some m.cls := findClass_of_methodNamed hBd.named
  have hlocks := hBd.notSynchronized
  subst hsz
  have hS : va_S (fun _ => False) s.heap s.heap [] := va_S.rf
  have hl := lv_entry ([.ref h0, .int b0, .int k0]) (n := 3) (Nat.le_of_ble_eq_true rfl)
  rw [lg_entry_eq]
  generalize (lg_sl ([.ref h0, .int b0, .int k0]) ++ List.replicate (3 - (lg_sl ([.ref h0, .int b0, .int k0])).length) Slot.unset).toArray = ls at hl ⊢
  have hl : lv_has ls 3 [(0, .ref h0), (1, .int b0), (2, .int k0)] := hl
  have hP : va_P D vwCl [(h0, .inr (1, [.ref e0, .int nt, .ref w0, .ref v0, .ref sa, .int lw, .int mm, .int rk])), (w0, .inr (2, [.ref wa, .int sz])), (wa, .inl (cI, 40, .inl f)), (sa, .inl (cI, 11, .inl sf))] s.heap := hP
  have h11 := psum_mono cn (show b + 1 ≤ 11 by omega)
  have hs1 := psum_s cn b
  have hp11 := hsz.2
  refine lv_iload_n hx hb dX1_emberAt_0 rfl (lv_at hl 2 rfl) ?_
  refine lz_if_lt (tgt := 30) hx hb hkv (by omega) dX1_emberAt_1 (by decide) (fun c_1 => ?_) (fun c_1 => ?_)
  · exfalso; omega
  · refine lv_iload_n hx hb dX1_emberAt_4 rfl (lv_at hl 2 rfl) ?_
    refine lv_aload_n hx hb dX1_emberAt_5 rfl (lv_at hl 0 rfl) ?_
    refine lv_iload_n hx hb dX1_emberAt_6 rfl (lv_at hl 1 rfl) ?_
    refine cr_i (va_runV (As := [.int b0]) (rest := [.int k0]) ⟨hx, hb, hml, hown, hts⟩ (k_X1_sizeOf l D cI cZ cJ cK _ h0 b0 e0 nt w0 v0 sa lw mm rk sf cn (↑b) (hsz) (hbv.trans (congrArg iI (by omega))) (by omega)) (cwV 1 hts (gV qw227 qw228 qw229 qw12 qw230) rfl rfl rfl (by decide +kernel) ⟨Nat.le_of_ble_eq_true rfl, Nat.le_of_ble_eq_true rfl⟩) (pv (ci := 1) (r := (RX1, TX1, 8)) (q0 := 0) hP hD hK hT hZ hS [0, 3] rfl rfl rfl rfl) rfl rfl hl.1 rfl (lv_room (Nat.le_of_ble_eq_true rfl)) dX1_emberAt_7 ⟨Nat.le_of_ble_eq_true rfl, Nat.le_of_ble_eq_true rfl⟩) hS hP (fun x_7 H locs hw_7 hP hS => ?_)
    have hw_7 : (x_7 = iI (szA cn (↑b))) := hw_7
    have v_7 := hw_7
    refine lz_icmp_ge (tgt := 30) hx hb hkv (v_7.trans (congrArg iI (szA_nat cn b))) ⟨by omega, by omega⟩ dX1_emberAt_10 (by decide) (fun c_10 => ?_) (fun c_10 => ?_)
    · exfalso; omega
    · refine lv_aload_n hx hb dX1_emberAt_13 rfl (lv_at hl 0 rfl) ?_
      refine va_get (D := D) (ci := 1) (v := .ref w0) (C := RX1) (T := TX1) (N := 8) hx hb hts iX1 hown hK hP 0 rfl rfl 2 (by decide) (hts _ qw76) (fun _ h9 => h9) rfl dX1_emberAt_14 ?_
      refine lv_aload_n hx hb dX1_emberAt_17 rfl (lv_at hl 0 rfl) ?_
      refine lv_iload_n hx hb dX1_emberAt_18 rfl (lv_at hl 1 rfl) ?_
      refine cr_i (va_runV (As := [.int b0]) (rest := [.ref w0]) ⟨hx, hb, hml, hown, hts⟩ (k_X1_startOf l D cI cZ cJ cK _ h0 b0 e0 nt w0 v0 sa lw mm rk sf cn b (hsz) (hbv.trans (congrArg iI (by omega))) (by omega)) (cwV 1 hts (gV qw250 qw252 qw3 qw12 qw253) rfl rfl rfl (by decide +kernel) ⟨Nat.le_of_ble_eq_true rfl, Nat.le_of_ble_eq_true rfl⟩) (pv (ci := 1) (r := (RX1, TX1, 8)) (q0 := 0) hP hD hK hT hZ hS [0, 3] rfl rfl rfl rfl) rfl rfl hl.1 rfl (lv_room (Nat.le_of_ble_eq_true rfl)) dX1_emberAt_19 ⟨Nat.le_of_ble_eq_true rfl, Nat.le_of_ble_eq_true rfl⟩) hS hP (fun x_19 H locs hw_19 hP hS => ?_)
      have hw_19 : (x_19 = iI (↑(psum cn b))) := hw_19
      have v_19 := hw_19
      refine lv_iload_n hx hb dX1_emberAt_22 rfl (lv_at hl 2 rfl) ?_
      refine lz_iadd hx hb v_19 hkv dX1_emberAt_23 (fun x_23 v_23 => ?_)
      refine cr_i (va_runV (As := [.int x_23]) (rest := []) ⟨hx, hb, hml, hown, hts⟩ (k_X2_at l D cI cZ cJ cK _ w0 x_23 wa sz f L ((psum cn b) + k) (hrow) (v_23.trans (congrArg iI (by omega))) (by omega)) (cwV 1 hts (gV qw231 qw232 qw233 qw13 qw234) rfl rfl rfl (by decide +kernel) ⟨Nat.le_of_ble_eq_true rfl, Nat.le_of_ble_eq_true rfl⟩) (pv (ci := 2) (r := (RX2, TX2, 2)) (q0 := 1) hP hD hK hT hZ hS [1, 2] rfl rfl rfl rfl) rfl rfl hl.1 rfl (lv_room (Nat.le_of_ble_eq_true rfl)) dX1_emberAt_24 ⟨Nat.le_of_ble_eq_true rfl, Nat.le_of_ble_eq_true rfl⟩) hS hP (fun x_24 H locs hw_24 hP hS => ?_)
      have hw_24 : (x_24 = iI (↑(L.getD ((psum cn b) + k) 0))) := hw_24
      have v_24 := hw_24
      refine lv_goto (tgt := 31) hx hb dX1_emberAt_27 (by decide) ?_
      exact W.iret (v := x_24) hx hb hr (fun t ht hW => ⟨⟨x_24, (), rfl, v_24.trans (congrArg iI (by omega)), trivial⟩, hS.F ht⟩) hS.2.2 dX1_emberAt_31
set_option maxHeartbeats 4000000 in
set_option maxRecDepth 100000 in
theorem k_X1_leastHeat (l : Launch) (D : va_G) (cI cZ cJ cK : ClassId) (hz9 : Nat) (h0 : Nat) (e0 : Nat) (nt : Int32) (w0 : Nat) (v0 : Nat) (sa : Nat) (lw : Int32) (mm : Int32) (rk : Int32) (wa : Nat) (sz : Int32) (f : Nat → Int32) (sf : Nat → Int32) (eh : Nat) (eo : Nat) (ev : Nat) (er : Nat) (el : Int32) (fh : Nat → Int32) (cn : Nat → Nat) (z : Int) (mm0 n : Nat) (Hh : Nat → Nat) (L : List Nat) (hrow : rowIs sz f L) (hsz : szC sf cn) (hf : isFst cn z) (hm : szA cn z = ↑mm0) (hml : mm0 ≤ L.length) (hem : embIs el fh n Hh) (hLx : ∀ x ∈ L, x < n) : Met l yX1_leastHeat (ws_ yX1_leastHeat cX1_leastHeat 4 (Option.some .int)) ({ frames := 2, cells := 0, slots := 0, locals := 42 }) (va_Pc [.ref h0] (wPre D cI cZ cJ cK hz9 [(h0, .inr (1, [.ref e0, .int nt, .ref w0, .ref v0, .ref sa, .int lw, .int mm, .int rk])), (w0, .inr (2, [.ref wa, .int sz])), (wa, .inl (cI, 40, .inl f)), (sa, .inl (cI, 11, .inl sf)), (e0, .inr (0, [.ref eh, .ref eo, .ref ev, .ref er, .int el])), (eh, .inl (cI, 40, .inl fh))])) (va_Qi (fun r (_ : Unit) => (r = iI (↑(minL Hh (L.take mm0))))) (fun _ _ => True) (fun _ => False)) 0 0 (fun _ => False) := by
  refine Met.ofW (cc := cX1_leastHeat) (maxL := 4) (ret := (Option.some .int)) (by decide) rfl ?_
  intro p e s m args below meth c s₁ hBd hml hv
  obtain ⟨rfl, hsz, hP, hD, hK, hT, hZ⟩ := hv
  have hx := hBd.exec
  have hb := hBd.bytes
  have hr := hBd.returns
  have hts : ∀ w ∈ lw_G, w.before _ s = true := fun w h => atoms_spec (ws := (ws_ yX1_leastHeat cX1_leastHeat 4 (Option.some .int))) hBd.pre w (List.mem_cons_of_mem _ h)
  have hown : s.vm.findClass RX1 = some m.cls := findClass_of_methodNamed hBd.named
  have hlocks := hBd.notSynchronized
  subst hsz
  have hS : va_S (fun _ => False) s.heap s.heap [] := va_S.rf
  have hl := lv_entry ([.ref h0]) (n := 4) (Nat.le_of_ble_eq_true rfl)
  rw [lg_entry_eq]
  generalize (lg_sl ([.ref h0]) ++ List.replicate (4 - (lg_sl ([.ref h0])).length) Slot.unset).toArray = ls at hl ⊢
  have hl : lv_has ls 4 [(0, .ref h0)] := hl
  have hP : va_P D vwCl [(h0, .inr (1, [.ref e0, .int nt, .ref w0, .ref v0, .ref sa, .int lw, .int mm, .int rk])), (w0, .inr (2, [.ref wa, .int sz])), (wa, .inl (cI, 40, .inl f)), (sa, .inl (cI, 11, .inl sf)), (e0, .inr (0, [.ref eh, .ref eo, .ref ev, .ref er, .int el])), (eh, .inl (cI, 40, .inl fh))] s.heap := hP
  obtain ⟨hn, hn4, hfh⟩ := id hem
  have hl4 := hrow.2.1
  refine lz_sipush hx hb (by decide) dX1_leastHeat_0 (fun x_0 v_0 => ?_)
  refine lv_istore_n (lv' := [(1, .int x_0), (0, .ref h0)]) hx hb dX1_leastHeat_3 rfl hl (by decide) rfl (fun ls hl => ?_)
  refine lv_aload_n hx hb dX1_leastHeat_4 rfl (lv_at hl 1 rfl) ?_
  refine lv_aload_n hx hb dX1_leastHeat_5 rfl (lv_at hl 1 rfl) ?_
  refine cr_i (va_runV (As := []) (rest := [.ref h0]) ⟨hx, hb, hml, hown, hts⟩ (k_X1_firstBucket l D cI cZ cJ cK _ h0 e0 nt w0 v0 sa lw mm rk sf cn z (hsz) (hf)) (cwV 0 hts (gV qw219 qw220 qw221 qw12 qw222) rfl rfl rfl (by decide +kernel) ⟨Nat.le_of_ble_eq_true rfl, Nat.le_of_ble_eq_true rfl⟩) (pv (ci := 1) (r := (RX1, TX1, 8)) (q0 := 0) hP hD hK hT hZ hS [0, 3] rfl rfl rfl rfl) rfl rfl hl.1 rfl (lv_room (Nat.le_of_ble_eq_true rfl)) dX1_leastHeat_6 ⟨Nat.le_of_ble_eq_true rfl, Nat.le_of_ble_eq_true rfl⟩) hS hP (fun x_6 H locs hw_6 hP hS => ?_)
  have hw_6 : (x_6 = iI (z)) := hw_6
  have v_6 := hw_6
  refine cr_i (va_runV (As := [.int x_6]) (rest := []) ⟨hx, hb, hml, hown, hts⟩ (k_X1_sizeOf l D cI cZ cJ cK _ h0 x_6 e0 nt w0 v0 sa lw mm rk sf cn z (hsz) (v_6.trans (congrArg iI (by omega))) (fst_rg hf)) (cwV 1 hts (gV qw227 qw228 qw229 qw12 qw230) rfl rfl rfl (by decide +kernel) ⟨Nat.le_of_ble_eq_true rfl, Nat.le_of_ble_eq_true rfl⟩) (pv (ci := 1) (r := (RX1, TX1, 8)) (q0 := 0) hP hD hK hT hZ hS [0, 3] rfl rfl rfl rfl) rfl rfl hl.1 rfl (lv_room (Nat.le_of_ble_eq_true rfl)) dX1_leastHeat_9 ⟨Nat.le_of_ble_eq_true rfl, Nat.le_of_ble_eq_true rfl⟩) hS hP (fun x_9 H locs hw_9 hP hS => ?_)
  have hw_9 : (x_9 = iI (szA cn z)) := hw_9
  have v_9 := hw_9
  refine lv_istore_n (lv' := [(2, .int x_9), (1, .int x_0), (0, .ref h0)]) hx hb dX1_leastHeat_12 rfl hl (by decide) rfl (fun ls hl => ?_)
  refine lz_iconst hx hb dX1_leastHeat_13 (fun x_13 v_13 => ?_)
  refine lv_istore_n (lv' := [(3, .int x_13), (2, .int x_9), (1, .int x_0), (0, .ref h0)]) hx hb dX1_leastHeat_14 rfl hl (by decide) rfl (fun ls hl => ?_)
  have key15 : ∀ (fu : Nat) (i : Nat) (ii : Int32) (acc : Int32) (H : Heap) (locs : List Loc) (ls : Array Slot), L.length + 1 - i < fu → (ii = iI (↑i)) → (acc = iI (↑(minL Hh (L.take i)))) → (i ≤ mm0) → va_P D vwCl [(h0, .inr (1, [.ref e0, .int nt, .ref w0, .ref v0, .ref sa, .int lw, .int mm, .int rk])), (w0, .inr (2, [.ref wa, .int sz])), (wa, .inl (cI, 40, .inl f)), (sa, .inl (cI, 11, .inl sf)), (e0, .inr (0, [.ref eh, .ref eo, .ref ev, .ref er, .int el])), (eh, .inl (cI, 40, .inl fh))] H → va_S (fun _ => False) s.heap H locs → lv_has ls 4 [(3, .int ii), (2, .int x_9), (1, .int acc), (0, .ref h0)] → W p l e (headSpec (ws_ yX1_leastHeat cX1_leastHeat 4 (Option.some .int)) ({ frames := 2, cells := 0, slots := 0, locals := 42 })).room s m ([.ref h0] : List Value).toArray below meth c H locs 0 0 (MQ below (va_Qi (fun r (_ : Unit) => (r = iI (↑(minL Hh (L.take mm0))))) (fun _ _ => True) (fun _ => False)) ([.ref h0] : List Value).toArray s 0 0 (fun _ => False)) (F0 m 15 ls []) := by
    intro fu
    induction fu with
    | zero => intros; omega
    | succ fu ih15 =>
      intro i ii acc H locs ls hfu hi ha hle hP hS hl
      refine lv_iload_n hx hb dX1_leastHeat_15 rfl (lv_at hl 0 rfl) ?_
      refine lv_iload_n hx hb dX1_leastHeat_16 rfl (lv_at hl 1 rfl) ?_
      refine lz_icmp_ge (tgt := 46) hx hb hi (v_9.trans (congrArg iI hm)) ⟨by omega, by omega⟩ dX1_leastHeat_17 (by decide) (fun c_17 => ?_) (fun c_17 => ?_)
      · refine lv_iload_n hx hb dX1_leastHeat_46 rfl (lv_at hl 2 rfl) ?_
        exact W.iret (v := acc) hx hb hr (fun t ht hW => ⟨⟨acc, (), rfl, ha.trans (congrArg iI (by rw [show i = mm0 by omega])), trivial⟩, hS.F ht⟩) hS.2.2 dX1_leastHeat_47
      · have hmt := minL_top Hh (L.take i)
        have hht := (hfh _ (hLx _ (getD_in (show i < L.length by omega)))).2
        refine lv_iload_n hx hb dX1_leastHeat_20 rfl (lv_at hl 2 rfl) ?_
        refine lv_aload_n hx hb dX1_leastHeat_21 rfl (lv_at hl 3 rfl) ?_
        refine va_get (D := D) (ci := 1) (v := .ref e0) (C := RX1) (T := TX1) (N := 8) hx hb hts iX1 hown hK hP 0 rfl rfl 0 (by decide) (hts _ qw74) (fun _ h9 => h9) rfl dX1_leastHeat_22 ?_
        refine lv_aload_n hx hb dX1_leastHeat_25 rfl (lv_at hl 3 rfl) ?_
        refine va_get (D := D) (ci := 1) (v := .ref w0) (C := RX1) (T := TX1) (N := 8) hx hb hts iX1 hown hK hP 0 rfl rfl 2 (by decide) (hts _ qw76) (fun _ h9 => h9) rfl dX1_leastHeat_26 ?_
        refine lv_iload_n hx hb dX1_leastHeat_29 rfl (lv_at hl 0 rfl) ?_
        refine cr_i (va_runV (As := [.int ii]) (rest := [.ref e0, .int acc]) ⟨hx, hb, hml, hown, hts⟩ (k_X2_at l D cI cZ cJ cK _ w0 ii wa sz f L i (hrow) (hi.trans (congrArg iI (by omega))) (by omega)) (cwV 1 hts (gV qw231 qw232 qw233 qw13 qw234) rfl rfl rfl (by decide +kernel) ⟨Nat.le_of_ble_eq_true rfl, Nat.le_of_ble_eq_true rfl⟩) (pv (ci := 2) (r := (RX2, TX2, 2)) (q0 := 1) hP hD hK hT hZ hS [1, 2] rfl rfl rfl rfl) rfl rfl hl.1 rfl (lv_room (Nat.le_of_ble_eq_true rfl)) dX1_leastHeat_30 ⟨Nat.le_of_ble_eq_true rfl, Nat.le_of_ble_eq_true rfl⟩) hS hP (fun x_30 H locs hw_30 hP hS => ?_)
        have hw_30 : (x_30 = iI (↑(L.getD i 0))) := hw_30
        have v_30 := hw_30
        refine cr_i (va_runV (As := [.int x_30]) (rest := [.int acc]) ⟨hx, hb, hml, hown, hts⟩ (k_X0_heatOf l D cI cZ cJ cK _ e0 x_30 eh eo ev er el fh n (L.getD i 0) (hn) (hn4) (v_30.trans (congrArg iI (by omega))) (hLx _ (getD_in (by omega)))) (cwV 1 hts (gV qw235 qw236 qw237 qw11 qw238) rfl rfl rfl (by decide +kernel) ⟨Nat.le_of_ble_eq_true rfl, Nat.le_of_ble_eq_true rfl⟩) (pv (ci := 0) (r := (RX0, TX0, 5)) (q0 := 4) hP hD hK hT hZ hS [4, 5] rfl rfl rfl rfl) rfl rfl hl.1 rfl (lv_room (Nat.le_of_ble_eq_true rfl)) dX1_leastHeat_33 ⟨Nat.le_of_ble_eq_true rfl, Nat.le_of_ble_eq_true rfl⟩) hS hP (fun x_33 H locs hw_33 hP hS => ?_)
        have hw_33 : (x_33 = fh (L.getD i 0)) := hw_33
        have v_33 := hw_33
        refine lz_min hx hb (by rw [hml]; exact hl.1.symm) hown (hts _ qw243) (hts _ qw244) (hts _ qw20) (hts _ qw245) (Nat.le_of_ble_eq_true rfl) (Nat.le_of_ble_eq_true rfl) (Nat.le_of_ble_eq_true rfl) (Nat.le_of_ble_eq_true rfl) ha (v_33.trans (hfh _ (hLx _ (getD_in (by omega)))).1) ⟨by omega, by omega⟩ dX1_leastHeat_36 (fun x_36 v_36 => ?_)
        refine lv_istore_n (lv' := [(1, .int x_36), (3, .int ii), (2, .int x_9), (0, .ref h0)]) hx hb dX1_leastHeat_39 rfl hl (by decide) rfl (fun ls hl => ?_)
        refine lz_iinc (lv2 := fun z => [(3, .int z), (1, .int x_36), (2, .int x_9), (0, .ref h0)]) hx hb dX1_leastHeat_40 hl (k := 1) rfl hi (by decide) (fun _ => rfl) (fun x_40 ls v_40 hl => ?_)
        refine lv_goto (tgt := 15) hx hb dX1_leastHeat_43 (by decide) ?_
        exact ih15 (i + 1) x_40 x_36 _ _ _ (by omega) (v_40.trans (congrArg iI (by omega))) (v_36.trans (congrArg iI (by rw [minL_take Hh L (show i < L.length by omega)]; omega))) (by omega) hP hS (lv_sub hl [0, 2, 1, 3] rfl)
  exact key15 _ 0 x_13 x_0 _ _ _ (Nat.lt_succ_self _) (v_13.trans (congrArg iI (by omega))) (v_0) (by omega) hP hS (lv_sub hl [0, 1, 2, 3] rfl)
set_option maxHeartbeats 4000000 in
set_option maxRecDepth 100000 in
theorem k_X1_mostHeat (l : Launch) (D : va_G) (cI cZ cJ cK : ClassId) (hz9 : Nat) (h0 : Nat) (e0 : Nat) (nt : Int32) (w0 : Nat) (v0 : Nat) (sa : Nat) (lw : Int32) (mm : Int32) (rk : Int32) (wa : Nat) (sz : Int32) (f : Nat → Int32) (eh : Nat) (eo : Nat) (ev : Nat) (er : Nat) (el : Int32) (fh : Nat → Int32) (n : Nat) (Hh : Nat → Nat) (L : List Nat) (hrow : rowIs sz f L) (hem : embIs el fh n Hh) (hLx : ∀ x ∈ L, x < n) : Met l yX1_mostHeat (ws_ yX1_mostHeat cX1_mostHeat 3 (Option.some .int)) ({ frames := 2, cells := 0, slots := 0, locals := 42 }) (va_Pc [.ref h0] (wPre D cI cZ cJ cK hz9 [(h0, .inr (1, [.ref e0, .int nt, .ref w0, .ref v0, .ref sa, .int lw, .int mm, .int rk])), (w0, .inr (2, [.ref wa, .int sz])), (wa, .inl (cI, 40, .inl f)), (e0, .inr (0, [.ref eh, .ref eo, .ref ev, .ref er, .int el])), (eh, .inl (cI, 40, .inl fh))])) (va_Qi (fun r (_ : Unit) => (r = iI (maxL Hh L))) (fun _ _ => True) (fun _ => False)) 0 0 (fun _ => False) := by
  refine Met.ofW (cc := cX1_mostHeat) (maxL := 3) (ret := (Option.some .int)) (by decide) rfl ?_
  intro p e s m args below meth c s₁ hBd hml hv
  obtain ⟨rfl, hsz, hP, hD, hK, hT, hZ⟩ := hv
  have hx := hBd.exec
  have hb := hBd.bytes
  have hr := hBd.returns
  have hts : ∀ w ∈ lw_G, w.before _ s = true := fun w h => atoms_spec (ws := (ws_ yX1_mostHeat cX1_mostHeat 3 (Option.some .int))) hBd.pre w (List.mem_cons_of_mem _ h)
  have hown : s.vm.findClass RX1 = some m.cls := findClass_of_methodNamed hBd.named
  have hlocks := hBd.notSynchronized
  subst hsz
  have hS : va_S (fun _ => False) s.heap s.heap [] := va_S.rf
  have hl := lv_entry ([.ref h0]) (n := 3) (Nat.le_of_ble_eq_true rfl)
  rw [lg_entry_eq]
  generalize (lg_sl ([.ref h0]) ++ List.replicate (3 - (lg_sl ([.ref h0])).length) Slot.unset).toArray = ls at hl ⊢
  have hl : lv_has ls 3 [(0, .ref h0)] := hl
  have hP : va_P D vwCl [(h0, .inr (1, [.ref e0, .int nt, .ref w0, .ref v0, .ref sa, .int lw, .int mm, .int rk])), (w0, .inr (2, [.ref wa, .int sz])), (wa, .inl (cI, 40, .inl f)), (e0, .inr (0, [.ref eh, .ref eo, .ref ev, .ref er, .int el])), (eh, .inl (cI, 40, .inl fh))] s.heap := hP
  obtain ⟨hn, hn4, hfh⟩ := id hem
  have hl4 := hrow.2.1
  refine lz_iconst hx hb dX1_mostHeat_0 (fun x_0 v_0 => ?_)
  refine lv_istore_n (lv' := [(1, .int x_0), (0, .ref h0)]) hx hb dX1_mostHeat_1 rfl hl (by decide) rfl (fun ls hl => ?_)
  refine lz_iconst hx hb dX1_mostHeat_2 (fun x_2 v_2 => ?_)
  refine lv_istore_n (lv' := [(2, .int x_2), (1, .int x_0), (0, .ref h0)]) hx hb dX1_mostHeat_3 rfl hl (by decide) rfl (fun ls hl => ?_)
  have key4 : ∀ (fu : Nat) (i : Nat) (ii : Int32) (acc : Int32) (H : Heap) (locs : List Loc) (ls : Array Slot), L.length + 1 - i < fu → (ii = iI (↑i)) → (acc = iI (maxL Hh (L.take i))) → (i ≤ L.length) → va_P D vwCl [(h0, .inr (1, [.ref e0, .int nt, .ref w0, .ref v0, .ref sa, .int lw, .int mm, .int rk])), (w0, .inr (2, [.ref wa, .int sz])), (wa, .inl (cI, 40, .inl f)), (e0, .inr (0, [.ref eh, .ref eo, .ref ev, .ref er, .int el])), (eh, .inl (cI, 40, .inl fh))] H → va_S (fun _ => False) s.heap H locs → lv_has ls 3 [(2, .int ii), (1, .int acc), (0, .ref h0)] → W p l e (headSpec (ws_ yX1_mostHeat cX1_mostHeat 3 (Option.some .int)) ({ frames := 2, cells := 0, slots := 0, locals := 42 })).room s m ([.ref h0] : List Value).toArray below meth c H locs 0 0 (MQ below (va_Qi (fun r (_ : Unit) => (r = iI (maxL Hh L))) (fun _ _ => True) (fun _ => False)) ([.ref h0] : List Value).toArray s 0 0 (fun _ => False)) (F0 m 4 ls []) := by
    intro fu
    induction fu with
    | zero => intros; omega
    | succ fu ih4 =>
      intro i ii acc H locs ls hfu hi ha hle hP hS hl
      refine lv_iload_n hx hb dX1_mostHeat_4 rfl (lv_at hl 0 rfl) ?_
      refine lv_aload_n hx hb dX1_mostHeat_5 rfl (lv_at hl 2 rfl) ?_
      refine va_get (D := D) (ci := 1) (v := .ref w0) (C := RX1) (T := TX1) (N := 8) hx hb hts iX1 hown hK hP 0 rfl rfl 2 (by decide) (hts _ qw76) (fun _ h9 => h9) rfl dX1_mostHeat_6 ?_
      refine cr_i (va_runV (As := []) (rest := [.int ii]) ⟨hx, hb, hml, hown, hts⟩ (k_X2_size l D cI cZ cJ cK _ w0 wa sz ) (cwV 0 hts (gV qw195 qw196 qw197 qw13 qw198) rfl rfl rfl (by decide +kernel) ⟨Nat.le_of_ble_eq_true rfl, Nat.le_of_ble_eq_true rfl⟩) (pv (ci := 2) (r := (RX2, TX2, 2)) (q0 := 1) hP hD hK hT hZ hS [1] rfl rfl rfl rfl) rfl rfl hl.1 rfl (lv_room (Nat.le_of_ble_eq_true rfl)) dX1_mostHeat_9 ⟨Nat.le_of_ble_eq_true rfl, Nat.le_of_ble_eq_true rfl⟩) hS hP (fun x_9 H locs hw_9 hP hS => ?_)
      have hw_9 : (x_9 = sz) := hw_9
      have v_9 := hw_9
      refine lz_icmp_ge (tgt := 41) hx hb hi (v_9.trans hrow.1) ⟨by omega, by omega⟩ dX1_mostHeat_12 (by decide) (fun c_12 => ?_) (fun c_12 => ?_)
      · refine lv_iload_n hx hb dX1_mostHeat_41 rfl (lv_at hl 1 rfl) ?_
        exact W.iret (v := acc) hx hb hr (fun t ht hW => ⟨⟨acc, (), rfl, ha.trans (congrArg iI (by rw [take_all (show L.length ≤ i by omega)])), trivial⟩, hS.F ht⟩) hS.2.2 dX1_mostHeat_42
      · have hmt := maxL_in (Hh := Hh) (L := L.take i) (fun x hx => (hfh x (hLx x (List.mem_of_mem_take hx))).2)
        have hht := (hfh _ (hLx _ (getD_in (show i < L.length by omega)))).2
        refine lv_iload_n hx hb dX1_mostHeat_15 rfl (lv_at hl 1 rfl) ?_
        refine lv_aload_n hx hb dX1_mostHeat_16 rfl (lv_at hl 2 rfl) ?_
        refine va_get (D := D) (ci := 1) (v := .ref e0) (C := RX1) (T := TX1) (N := 8) hx hb hts iX1 hown hK hP 0 rfl rfl 0 (by decide) (hts _ qw74) (fun _ h9 => h9) rfl dX1_mostHeat_17 ?_
        refine lv_aload_n hx hb dX1_mostHeat_20 rfl (lv_at hl 2 rfl) ?_
        refine va_get (D := D) (ci := 1) (v := .ref w0) (C := RX1) (T := TX1) (N := 8) hx hb hts iX1 hown hK hP 0 rfl rfl 2 (by decide) (hts _ qw76) (fun _ h9 => h9) rfl dX1_mostHeat_21 ?_
        refine lv_iload_n hx hb dX1_mostHeat_24 rfl (lv_at hl 0 rfl) ?_
        refine cr_i (va_runV (As := [.int ii]) (rest := [.ref e0, .int acc]) ⟨hx, hb, hml, hown, hts⟩ (k_X2_at l D cI cZ cJ cK _ w0 ii wa sz f L i (hrow) (hi.trans (congrArg iI (by omega))) (by omega)) (cwV 1 hts (gV qw231 qw232 qw233 qw13 qw234) rfl rfl rfl (by decide +kernel) ⟨Nat.le_of_ble_eq_true rfl, Nat.le_of_ble_eq_true rfl⟩) (pv (ci := 2) (r := (RX2, TX2, 2)) (q0 := 1) hP hD hK hT hZ hS [1, 2] rfl rfl rfl rfl) rfl rfl hl.1 rfl (lv_room (Nat.le_of_ble_eq_true rfl)) dX1_mostHeat_25 ⟨Nat.le_of_ble_eq_true rfl, Nat.le_of_ble_eq_true rfl⟩) hS hP (fun x_25 H locs hw_25 hP hS => ?_)
        have hw_25 : (x_25 = iI (↑(L.getD i 0))) := hw_25
        have v_25 := hw_25
        refine cr_i (va_runV (As := [.int x_25]) (rest := [.int acc]) ⟨hx, hb, hml, hown, hts⟩ (k_X0_heatOf l D cI cZ cJ cK _ e0 x_25 eh eo ev er el fh n (L.getD i 0) (hn) (hn4) (v_25.trans (congrArg iI (by omega))) (hLx _ (getD_in (by omega)))) (cwV 1 hts (gV qw235 qw236 qw237 qw11 qw238) rfl rfl rfl (by decide +kernel) ⟨Nat.le_of_ble_eq_true rfl, Nat.le_of_ble_eq_true rfl⟩) (pv (ci := 0) (r := (RX0, TX0, 5)) (q0 := 3) hP hD hK hT hZ hS [3, 4] rfl rfl rfl rfl) rfl rfl hl.1 rfl (lv_room (Nat.le_of_ble_eq_true rfl)) dX1_mostHeat_28 ⟨Nat.le_of_ble_eq_true rfl, Nat.le_of_ble_eq_true rfl⟩) hS hP (fun x_28 H locs hw_28 hP hS => ?_)
        have hw_28 : (x_28 = fh (L.getD i 0)) := hw_28
        have v_28 := hw_28
        refine lz_max hx hb (by rw [hml]; exact hl.1.symm) hown (hts _ qw365) (hts _ qw366) (hts _ qw20) (hts _ qw367) (Nat.le_of_ble_eq_true rfl) (Nat.le_of_ble_eq_true rfl) (Nat.le_of_ble_eq_true rfl) (Nat.le_of_ble_eq_true rfl) ha (v_28.trans (hfh _ (hLx _ (getD_in (by omega)))).1) ⟨by omega, by omega⟩ dX1_mostHeat_31 (fun x_31 v_31 => ?_)
        refine lv_istore_n (lv' := [(1, .int x_31), (2, .int ii), (0, .ref h0)]) hx hb dX1_mostHeat_34 rfl hl (by decide) rfl (fun ls hl => ?_)
        refine lz_iinc (lv2 := fun z => [(2, .int z), (1, .int x_31), (0, .ref h0)]) hx hb dX1_mostHeat_35 hl (k := 1) rfl hi (by decide) (fun _ => rfl) (fun x_35 ls v_35 hl => ?_)
        refine lv_goto (tgt := 4) hx hb dX1_mostHeat_38 (by decide) ?_
        exact ih4 (i + 1) x_35 x_31 _ _ _ (by omega) (v_35.trans (congrArg iI (by omega))) (v_31.trans (congrArg iI (by rw [maxL_take Hh L (show i < L.length by omega)]))) (by omega) hP hS (lv_sub hl [0, 1, 2] rfl)
  exact key4 _ 0 x_2 x_0 _ _ _ (Nat.lt_succ_self _) (v_2.trans (congrArg iI (by omega))) (v_0) (by omega) hP hS (lv_sub hl [0, 1, 2] rfl)
set_option maxHeartbeats 4000000 in
set_option maxRecDepth 100000 in
theorem k_X1_heatInAll (l : Launch) (D : va_G) (cI cZ cJ cK : ClassId) (hz9 : Nat) (h0 : Nat) (e0 : Nat) (nt : Int32) (w0 : Nat) (v0 : Nat) (sa : Nat) (lw : Int32) (mm : Int32) (rk : Int32) (wa : Nat) (sz : Int32) (f : Nat → Int32) (eh : Nat) (eo : Nat) (ev : Nat) (er : Nat) (el : Int32) (fh : Nat → Int32) (n : Nat) (Hh : Nat → Nat) (L : List Nat) (hrow : rowIs sz f L) (hem : embIs el fh n Hh) (hLx : ∀ x ∈ L, x < n) : Met l yX1_heatInAll (ws_ yX1_heatInAll cX1_heatInAll 3 (Option.some .int)) ({ frames := 2, cells := 0, slots := 0, locals := 42 }) (va_Pc [.ref h0] (wPre D cI cZ cJ cK hz9 [(h0, .inr (1, [.ref e0, .int nt, .ref w0, .ref v0, .ref sa, .int lw, .int mm, .int rk])), (w0, .inr (2, [.ref wa, .int sz])), (wa, .inl (cI, 40, .inl f)), (e0, .inr (0, [.ref eh, .ref eo, .ref ev, .ref er, .int el])), (eh, .inl (cI, 40, .inl fh))])) (va_Qi (fun r (_ : Unit) => (r = iI (↑(sumL Hh L)))) (fun _ _ => True) (fun _ => False)) 0 0 (fun _ => False) := by
  refine Met.ofW (cc := cX1_heatInAll) (maxL := 3) (ret := (Option.some .int)) (by decide) rfl ?_
  intro p e s m args below meth c s₁ hBd hml hv
  obtain ⟨rfl, hsz, hP, hD, hK, hT, hZ⟩ := hv
  have hx := hBd.exec
  have hb := hBd.bytes
  have hr := hBd.returns
  have hts : ∀ w ∈ lw_G, w.before _ s = true := fun w h => atoms_spec (ws := (ws_ yX1_heatInAll cX1_heatInAll 3 (Option.some .int))) hBd.pre w (List.mem_cons_of_mem _ h)
  have hown : s.vm.findClass RX1 = some m.cls := findClass_of_methodNamed hBd.named
  have hlocks := hBd.notSynchronized
  subst hsz
  have hS : va_S (fun _ => False) s.heap s.heap [] := va_S.rf
  have hl := lv_entry ([.ref h0]) (n := 3) (Nat.le_of_ble_eq_true rfl)
  rw [lg_entry_eq]
  generalize (lg_sl ([.ref h0]) ++ List.replicate (3 - (lg_sl ([.ref h0])).length) Slot.unset).toArray = ls at hl ⊢
  have hl : lv_has ls 3 [(0, .ref h0)] := hl
  have hP : va_P D vwCl [(h0, .inr (1, [.ref e0, .int nt, .ref w0, .ref v0, .ref sa, .int lw, .int mm, .int rk])), (w0, .inr (2, [.ref wa, .int sz])), (wa, .inl (cI, 40, .inl f)), (e0, .inr (0, [.ref eh, .ref eo, .ref ev, .ref er, .int el])), (eh, .inl (cI, 40, .inl fh))] s.heap := hP
  obtain ⟨hn, hn4, hfh⟩ := id hem
  have hl4 := hrow.2.1
  refine lz_iconst hx hb dX1_heatInAll_0 (fun x_0 v_0 => ?_)
  refine lv_istore_n (lv' := [(1, .int x_0), (0, .ref h0)]) hx hb dX1_heatInAll_1 rfl hl (by decide) rfl (fun ls hl => ?_)
  refine lz_iconst hx hb dX1_heatInAll_2 (fun x_2 v_2 => ?_)
  refine lv_istore_n (lv' := [(2, .int x_2), (1, .int x_0), (0, .ref h0)]) hx hb dX1_heatInAll_3 rfl hl (by decide) rfl (fun ls hl => ?_)
  have key4 : ∀ (fu : Nat) (i : Nat) (ii : Int32) (acc : Int32) (H : Heap) (locs : List Loc) (ls : Array Slot), L.length + 1 - i < fu → (ii = iI (↑i)) → (acc = iI (↑(sumL Hh (L.take i)))) → (i ≤ L.length) → va_P D vwCl [(h0, .inr (1, [.ref e0, .int nt, .ref w0, .ref v0, .ref sa, .int lw, .int mm, .int rk])), (w0, .inr (2, [.ref wa, .int sz])), (wa, .inl (cI, 40, .inl f)), (e0, .inr (0, [.ref eh, .ref eo, .ref ev, .ref er, .int el])), (eh, .inl (cI, 40, .inl fh))] H → va_S (fun _ => False) s.heap H locs → lv_has ls 3 [(2, .int ii), (1, .int acc), (0, .ref h0)] → W p l e (headSpec (ws_ yX1_heatInAll cX1_heatInAll 3 (Option.some .int)) ({ frames := 2, cells := 0, slots := 0, locals := 42 })).room s m ([.ref h0] : List Value).toArray below meth c H locs 0 0 (MQ below (va_Qi (fun r (_ : Unit) => (r = iI (↑(sumL Hh L)))) (fun _ _ => True) (fun _ => False)) ([.ref h0] : List Value).toArray s 0 0 (fun _ => False)) (F0 m 4 ls []) := by
    intro fu
    induction fu with
    | zero => intros; omega
    | succ fu ih4 =>
      intro i ii acc H locs ls hfu hi ha hle hP hS hl
      refine lv_iload_n hx hb dX1_heatInAll_4 rfl (lv_at hl 0 rfl) ?_
      refine lv_aload_n hx hb dX1_heatInAll_5 rfl (lv_at hl 2 rfl) ?_
      refine va_get (D := D) (ci := 1) (v := .ref w0) (C := RX1) (T := TX1) (N := 8) hx hb hts iX1 hown hK hP 0 rfl rfl 2 (by decide) (hts _ qw76) (fun _ h9 => h9) rfl dX1_heatInAll_6 ?_
      refine cr_i (va_runV (As := []) (rest := [.int ii]) ⟨hx, hb, hml, hown, hts⟩ (k_X2_size l D cI cZ cJ cK _ w0 wa sz ) (cwV 0 hts (gV qw195 qw196 qw197 qw13 qw198) rfl rfl rfl (by decide +kernel) ⟨Nat.le_of_ble_eq_true rfl, Nat.le_of_ble_eq_true rfl⟩) (pv (ci := 2) (r := (RX2, TX2, 2)) (q0 := 1) hP hD hK hT hZ hS [1] rfl rfl rfl rfl) rfl rfl hl.1 rfl (lv_room (Nat.le_of_ble_eq_true rfl)) dX1_heatInAll_9 ⟨Nat.le_of_ble_eq_true rfl, Nat.le_of_ble_eq_true rfl⟩) hS hP (fun x_9 H locs hw_9 hP hS => ?_)
      have hw_9 : (x_9 = sz) := hw_9
      have v_9 := hw_9
      refine lz_icmp_ge (tgt := 39) hx hb hi (v_9.trans hrow.1) ⟨by omega, by omega⟩ dX1_heatInAll_12 (by decide) (fun c_12 => ?_) (fun c_12 => ?_)
      · refine lv_iload_n hx hb dX1_heatInAll_39 rfl (lv_at hl 1 rfl) ?_
        exact W.iret (v := acc) hx hb hr (fun t ht hW => ⟨⟨acc, (), rfl, ha.trans (congrArg iI (by rw [take_all (show L.length ≤ i by omega)])), trivial⟩, hS.F ht⟩) hS.2.2 dX1_heatInAll_40
      · refine lv_iload_n hx hb dX1_heatInAll_15 rfl (lv_at hl 1 rfl) ?_
        refine lv_aload_n hx hb dX1_heatInAll_16 rfl (lv_at hl 2 rfl) ?_
        refine va_get (D := D) (ci := 1) (v := .ref e0) (C := RX1) (T := TX1) (N := 8) hx hb hts iX1 hown hK hP 0 rfl rfl 0 (by decide) (hts _ qw74) (fun _ h9 => h9) rfl dX1_heatInAll_17 ?_
        refine lv_aload_n hx hb dX1_heatInAll_20 rfl (lv_at hl 2 rfl) ?_
        refine va_get (D := D) (ci := 1) (v := .ref w0) (C := RX1) (T := TX1) (N := 8) hx hb hts iX1 hown hK hP 0 rfl rfl 2 (by decide) (hts _ qw76) (fun _ h9 => h9) rfl dX1_heatInAll_21 ?_
        refine lv_iload_n hx hb dX1_heatInAll_24 rfl (lv_at hl 0 rfl) ?_
        refine cr_i (va_runV (As := [.int ii]) (rest := [.ref e0, .int acc]) ⟨hx, hb, hml, hown, hts⟩ (k_X2_at l D cI cZ cJ cK _ w0 ii wa sz f L i (hrow) (hi.trans (congrArg iI (by omega))) (by omega)) (cwV 1 hts (gV qw231 qw232 qw233 qw13 qw234) rfl rfl rfl (by decide +kernel) ⟨Nat.le_of_ble_eq_true rfl, Nat.le_of_ble_eq_true rfl⟩) (pv (ci := 2) (r := (RX2, TX2, 2)) (q0 := 1) hP hD hK hT hZ hS [1, 2] rfl rfl rfl rfl) rfl rfl hl.1 rfl (lv_room (Nat.le_of_ble_eq_true rfl)) dX1_heatInAll_25 ⟨Nat.le_of_ble_eq_true rfl, Nat.le_of_ble_eq_true rfl⟩) hS hP (fun x_25 H locs hw_25 hP hS => ?_)
        have hw_25 : (x_25 = iI (↑(L.getD i 0))) := hw_25
        have v_25 := hw_25
        refine cr_i (va_runV (As := [.int x_25]) (rest := [.int acc]) ⟨hx, hb, hml, hown, hts⟩ (k_X0_heatOf l D cI cZ cJ cK _ e0 x_25 eh eo ev er el fh n (L.getD i 0) (hn) (hn4) (v_25.trans (congrArg iI (by omega))) (hLx _ (getD_in (by omega)))) (cwV 1 hts (gV qw235 qw236 qw237 qw11 qw238) rfl rfl rfl (by decide +kernel) ⟨Nat.le_of_ble_eq_true rfl, Nat.le_of_ble_eq_true rfl⟩) (pv (ci := 0) (r := (RX0, TX0, 5)) (q0 := 3) hP hD hK hT hZ hS [3, 4] rfl rfl rfl rfl) rfl rfl hl.1 rfl (lv_room (Nat.le_of_ble_eq_true rfl)) dX1_heatInAll_28 ⟨Nat.le_of_ble_eq_true rfl, Nat.le_of_ble_eq_true rfl⟩) hS hP (fun x_28 H locs hw_28 hP hS => ?_)
        have hw_28 : (x_28 = fh (L.getD i 0)) := hw_28
        have v_28 := hw_28
        refine lz_iadd hx hb ha (v_28.trans (hfh _ (hLx _ (getD_in (by omega)))).1) dX1_heatInAll_31 (fun x_31 v_31 => ?_)
        refine lv_istore_n (lv' := [(1, .int x_31), (2, .int ii), (0, .ref h0)]) hx hb dX1_heatInAll_32 rfl hl (by decide) rfl (fun ls hl => ?_)
        refine lz_iinc (lv2 := fun z => [(2, .int z), (1, .int x_31), (0, .ref h0)]) hx hb dX1_heatInAll_33 hl (k := 1) rfl hi (by decide) (fun _ => rfl) (fun x_33 ls v_33 hl => ?_)
        refine lv_goto (tgt := 4) hx hb dX1_heatInAll_36 (by decide) ?_
        exact ih4 (i + 1) x_33 x_31 _ _ _ (by omega) (v_33.trans (congrArg iI (by omega))) (v_31.trans (congrArg iI (by rw [sumL_take Hh L (show i < L.length by omega)]; omega))) (by omega) hP hS (lv_sub hl [0, 1, 2] rfl)
  exact key4 _ 0 x_2 x_0 _ _ _ (Nat.lt_succ_self _) (v_2.trans (congrArg iI (by omega))) (v_0) (by omega) hP hS (lv_sub hl [0, 1, 2] rfl)
set_option maxHeartbeats 4000000 in
set_option maxRecDepth 100000 in
theorem k_X1_put (l : Launch) (D : va_G) (cI cZ cJ cK : ClassId) (hz9 : Nat) (h0 : Nat) (x0 : Int32) (e0 : Nat) (nt : Int32) (w0 : Nat) (v0 : Nat) (sa : Nat) (lw : Int32) (mm : Int32) (rk : Int32) (wa : Nat) (sz : Int32) (f : Nat → Int32) (sf : Nat → Int32) (eh : Nat) (eo : Nat) (ev : Nat) (er : Nat) (el : Int32) (fh : Nat → Int32) (lo n x : Nat) (Hh : Nat → Nat) (L : List Nat) (hem : embIs el fh n Hh) (hhe : heaIs lw sz f sf lo n Hh L) (hxv : x0 = iI ↑x) (hxn : x < n) (hl4 : L.length < 40) : Met l yX1_put (ws_ yX1_put cX1_put 3 (Option.none : Option Jvm.ClassFile.FieldType)) ({ frames := 2, cells := 0, slots := 0, locals := 52 }) (va_Pc [.ref h0, .int x0] (wPre D cI cZ cJ cK hz9 [(h0, .inr (1, [.ref e0, .int nt, .ref w0, .ref v0, .ref sa, .int lw, .int mm, .int rk])), (w0, .inr (2, [.ref wa, .int sz])), (wa, .inl (cI, 40, .inl f)), (sa, .inl (cI, 11, .inl sf)), (e0, .inr (0, [.ref eh, .ref eo, .ref ev, .ref er, .int el])), (eh, .inl (cI, 40, .inl fh))])) (va_Qv (fun (u : Int32 × (Nat → Int32) × (Nat → Int32)) => (heaIs lw u.1 u.2.1 u.2.2 lo n Hh (ins (ka lo Hh) L x))) (fun (u : Int32 × (Nat → Int32) × (Nat → Int32)) t => wPost D (va_A [(h0, .inr (1, [.ref e0, .int nt, .ref w0, .ref v0, .ref sa, .int lw, .int mm, .int rk])), (w0, .inr (2, [.ref wa, .int sz])), (wa, .inl (cI, 40, .inl f)), (sa, .inl (cI, 11, .inl sf)), (e0, .inr (0, [.ref eh, .ref eo, .ref ev, .ref er, .int el])), (eh, .inl (cI, 40, .inl fh))] hz9) [(h0, .inr (1, [.ref e0, .int nt, .ref w0, .ref v0, .ref sa, .int lw, .int mm, .int rk])), (w0, .inr (2, [.ref wa, .int u.1])), (wa, .inl (cI, 40, .inl u.2.1)), (sa, .inl (cI, 11, .inl u.2.2)), (e0, .inr (0, [.ref eh, .ref eo, .ref ev, .ref er, .int el])), (eh, .inl (cI, 40, .inl fh))] t) (va_A [(h0, .inr (1, [.ref e0, .int nt, .ref w0, .ref v0, .ref sa, .int lw, .int mm, .int rk])), (w0, .inr (2, [.ref wa, .int sz])), (wa, .inl (cI, 40, .inl f)), (sa, .inl (cI, 11, .inl sf)), (e0, .inr (0, [.ref eh, .ref eo, .ref ev, .ref er, .int el])), (eh, .inl (cI, 40, .inl fh))] hz9)) 0 0 (va_A [(h0, .inr (1, [.ref e0, .int nt, .ref w0, .ref v0, .ref sa, .int lw, .int mm, .int rk])), (w0, .inr (2, [.ref wa, .int sz])), (wa, .inl (cI, 40, .inl f)), (sa, .inl (cI, 11, .inl sf)), (e0, .inr (0, [.ref eh, .ref eo, .ref ev, .ref er, .int el])), (eh, .inl (cI, 40, .inl fh))] hz9) := by
  refine Met.ofW (cc := cX1_put) (maxL := 3) (ret := (Option.none : Option Jvm.ClassFile.FieldType)) (by decide) rfl ?_
  intro p e s m args below meth c s₁ hBd hml hv
  obtain ⟨rfl, hsz, hP, hD, hK, hT, hZ⟩ := hv
  have hx := hBd.exec
  have hb := hBd.bytes
  have hr := hBd.returns
  have hts : ∀ w ∈ lw_G, w.before _ s = true := fun w h => atoms_spec (ws := (ws_ yX1_put cX1_put 3 (Option.none : Option Jvm.ClassFile.FieldType))) hBd.pre w (List.mem_cons_of_mem _ h)
  have hown : s.vm.findClass RX1 = some m.cls := findClass_of_methodNamed hBd.named
  have hlocks := hBd.notSynchronized
  subst hsz
  have hD := hD.self (sz := s.heap.size)
  have hZA := hZ.own hP
  generalize hAe : va_A [(h0, .inr (1, [.ref e0, .int nt, .ref w0, .ref v0, .ref sa, .int lw, .int mm, .int rk])), (w0, .inr (2, [.ref wa, .int sz])), (wa, .inl (cI, 40, .inl f)), (sa, .inl (cI, 11, .inl sf)), (e0, .inr (0, [.ref eh, .ref eo, .ref ev, .ref er, .int el])), (eh, .inl (cI, 40, .inl fh))] s.heap.size = A at hD hZA ⊢
  have hA : ∀ q : Nat, s.heap.size ≤ q → A q := fun q h => by rw [← hAe]; exact Or.inr h
  have hZ := hZA
  have hS : va_S A s.heap s.heap [] := va_S.rf
  have hl := lv_entry ([.ref h0, .int x0]) (n := 3) (Nat.le_of_ble_eq_true rfl)
  rw [lg_entry_eq]
  generalize (lg_sl ([.ref h0, .int x0]) ++ List.replicate (3 - (lg_sl ([.ref h0, .int x0])).length) Slot.unset).toArray = ls at hl ⊢
  have hl : lv_has ls 3 [(0, .ref h0), (1, .int x0)] := hl
  have hP : va_P D vwCl [(h0, .inr (1, [.ref e0, .int nt, .ref w0, .ref v0, .ref sa, .int lw, .int mm, .int rk])), (w0, .inr (2, [.ref wa, .int sz])), (wa, .inl (cI, 40, .inl f)), (sa, .inl (cI, 11, .inl sf)), (e0, .inr (0, [.ref eh, .ref eo, .ref ev, .ref er, .int el])), (eh, .inl (cI, 40, .inl fh))] s.heap := hP
  obtain ⟨hlo, hlo4, hrow, hsz, hLx⟩ := id hhe
  obtain ⟨hn, hn4, hfh⟩ := id hem
  have hxH := hfh x hxn
  have hb10 := bk_le10 hlo4 hxH.2
  have hk1 := cnt_psum_le (ka lo Hh) L (bk lo (Hh x) + 1)
  have hk2 := psum_s (cnt (ka lo Hh) L) (bk lo (Hh x))
  refine lv_aload_n hx hb dX1_put_0 rfl (lv_at hl 0 rfl) ?_
  refine lv_aload_n hx hb dX1_put_1 rfl (lv_at hl 0 rfl) ?_
  refine va_get (D := D) (ci := 1) (v := .ref e0) (C := RX1) (T := TX1) (N := 8) hx hb hts iX1 hown hK hP 0 rfl rfl 0 (by decide) (hts _ qw74) (fun _ h9 => h9) rfl dX1_put_2 ?_
  refine lv_iload_n hx hb dX1_put_5 rfl (lv_at hl 1 rfl) ?_
  refine cr_i (va_runV (As := [.int x0]) (rest := [.ref h0]) ⟨hx, hb, hml, hown, hts⟩ (k_X0_heatOf l D cI cZ cJ cK _ e0 x0 eh eo ev er el fh n x (hn) (hn4) (hxv.trans (congrArg iI (by omega))) (hxn)) (cwV 1 hts (gV qw235 qw236 qw237 qw11 qw238) rfl rfl rfl (by decide +kernel) ⟨Nat.le_of_ble_eq_true rfl, Nat.le_of_ble_eq_true rfl⟩) (pv (ci := 0) (r := (RX0, TX0, 5)) (q0 := 4) hP hD hK hT hZ hS [4, 5] rfl rfl rfl rfl) rfl rfl hl.1 rfl (lv_room (Nat.le_of_ble_eq_true rfl)) dX1_put_6 ⟨Nat.le_of_ble_eq_true rfl, Nat.le_of_ble_eq_true rfl⟩) hS hP (fun x_6 H locs hw_6 hP hS => ?_)
  have hw_6 : (x_6 = fh x) := hw_6
  have v_6 := hw_6
  refine cr_i (va_runV (As := [.int x_6]) (rest := []) ⟨hx, hb, hml, hown, hts⟩ (k_X1_bucketFor l D cI cZ cJ cK _ h0 x_6 e0 nt w0 v0 sa lw mm rk lo (Hh x) (hlo) (hlo4) ((v_6.trans (hfh _ (hxn)).1).trans (congrArg iI (by omega))) (hxH.2)) (cwV 1 hts (gV qw269 qw270 qw271 qw12 qw272) rfl rfl rfl (by decide +kernel) ⟨Nat.le_of_ble_eq_true rfl, Nat.le_of_ble_eq_true rfl⟩) (pv (ci := 1) (r := (RX1, TX1, 8)) (q0 := 0) hP hD hK hT hZ hS [0] rfl rfl rfl rfl) rfl rfl hl.1 rfl (lv_room (Nat.le_of_ble_eq_true rfl)) dX1_put_9 ⟨Nat.le_of_ble_eq_true rfl, Nat.le_of_ble_eq_true rfl⟩) hS hP (fun x_9 H locs hw_9 hP hS => ?_)
  have hw_9 : (x_9 = iI (↑(bk lo (Hh x)))) := hw_9
  have v_9 := hw_9
  refine lv_istore_n (lv' := [(2, .int x_9), (0, .ref h0), (1, .int x0)]) hx hb dX1_put_12 rfl hl (by decide) rfl (fun ls hl => ?_)
  refine lv_aload_n hx hb dX1_put_13 rfl (lv_at hl 1 rfl) ?_
  refine va_get (D := D) (ci := 1) (v := .ref w0) (C := RX1) (T := TX1) (N := 8) hx hb hts iX1 hown hK hP 0 rfl rfl 2 (by decide) (hts _ qw76) (fun _ h9 => h9) rfl dX1_put_14 ?_
  refine lv_aload_n hx hb dX1_put_17 rfl (lv_at hl 1 rfl) ?_
  refine lv_iload_n hx hb dX1_put_18 rfl (lv_at hl 0 rfl) ?_
  refine cr_i (va_runV (As := [.int x_9]) (rest := [.ref w0]) ⟨hx, hb, hml, hown, hts⟩ (k_X1_startOf l D cI cZ cJ cK _ h0 x_9 e0 nt w0 v0 sa lw mm rk sf (cnt (ka lo Hh) L) (bk lo (Hh x)) (hsz) (v_9.trans (congrArg iI (by omega))) (by omega)) (cwV 1 hts (gV qw250 qw252 qw3 qw12 qw253) rfl rfl rfl (by decide +kernel) ⟨Nat.le_of_ble_eq_true rfl, Nat.le_of_ble_eq_true rfl⟩) (pv (ci := 1) (r := (RX1, TX1, 8)) (q0 := 0) hP hD hK hT hZ hS [0, 3] rfl rfl rfl rfl) rfl rfl hl.1 rfl (lv_room (Nat.le_of_ble_eq_true rfl)) dX1_put_19 ⟨Nat.le_of_ble_eq_true rfl, Nat.le_of_ble_eq_true rfl⟩) hS hP (fun x_19 H locs hw_19 hP hS => ?_)
  have hw_19 : (x_19 = iI (↑(psum (cnt (ka lo Hh) L) (bk lo (Hh x))))) := hw_19
  have v_19 := hw_19
  refine lv_aload_n hx hb dX1_put_22 rfl (lv_at hl 1 rfl) ?_
  refine lv_iload_n hx hb dX1_put_23 rfl (lv_at hl 0 rfl) ?_
  refine cr_i (va_runV (As := [.int x_9]) (rest := [.int x_19, .ref w0]) ⟨hx, hb, hml, hown, hts⟩ (k_X1_sizeOf l D cI cZ cJ cK _ h0 x_9 e0 nt w0 v0 sa lw mm rk sf (cnt (ka lo Hh) L) (↑(bk lo (Hh x))) (hsz) (v_9.trans (congrArg iI (by omega))) (by omega)) (cwV 1 hts (gV qw227 qw228 qw229 qw12 qw230) rfl rfl rfl (by decide +kernel) ⟨Nat.le_of_ble_eq_true rfl, Nat.le_of_ble_eq_true rfl⟩) (pv (ci := 1) (r := (RX1, TX1, 8)) (q0 := 0) hP hD hK hT hZ hS [0, 3] rfl rfl rfl rfl) rfl rfl hl.1 rfl (lv_room (Nat.le_of_ble_eq_true rfl)) dX1_put_24 ⟨Nat.le_of_ble_eq_true rfl, Nat.le_of_ble_eq_true rfl⟩) hS hP (fun x_24 H locs hw_24 hP hS => ?_)
  have hw_24 : (x_24 = iI (szA (cnt (ka lo Hh) L) (↑(bk lo (Hh x))))) := hw_24
  have v_24 := hw_24
  refine lz_iadd hx hb v_19 (v_24.trans (congrArg iI (szA_nat _ _))) dX1_put_27 (fun x_27 v_27 => ?_)
  refine lv_iload_n hx hb dX1_put_28 rfl (lv_at hl 2 rfl) ?_
  refine cm_v (wr := [(h0, .inr (1, [.ref e0, .int nt, .ref w0, .ref v0, .ref sa, .int lw, .int mm, .int rk])), (sa, .inl (cI, 11, .inl sf)), (e0, .inr (0, [.ref eh, .ref eo, .ref ev, .ref er, .int el])), (eh, .inl (cI, 40, .inl fh))]) (va_runV (As := [.int x_27, .int x0]) (rest := []) ⟨hx, hb, hml, hown, hts⟩ (k_X2_insert l D cI cZ cJ cK _ w0 x_27 x0 wa sz f L ((psum (cnt (ka lo Hh) L) (bk lo (Hh x))) + ((cnt (ka lo Hh) L) (bk lo (Hh x)))) x (hrow) (v_27.trans (congrArg iI (by omega))) (by omega) (by omega) (hxv.trans (congrArg iI (by omega)))) (cwV 2 hts (gV qw273 qw274 qw275 qw13 qw276) rfl rfl rfl (by decide +kernel) ⟨Nat.le_of_ble_eq_true rfl, Nat.le_of_ble_eq_true rfl⟩) (pv (ci := 2) (r := (RX2, TX2, 2)) (q0 := 1) hP hD hK hT hZ hS [1, 2] rfl rfl rfl rfl) rfl rfl hl.1 rfl (lv_room (Nat.le_of_ble_eq_true rfl)) dX1_put_29 ⟨Nat.le_of_ble_eq_true rfl, Nat.le_of_ble_eq_true rfl⟩) hS hP hD hA [1, 2] [0, 3, 4, 5] rfl rfl rfl (by decide) (fun u_29 H locs hw_29 hP hD hS => ?_)
  obtain ⟨sz2_29, g_29⟩ := u_29
  have hP : va_P D vwCl [(h0, .inr (1, [.ref e0, .int nt, .ref w0, .ref v0, .ref sa, .int lw, .int mm, .int rk])), (sa, .inl (cI, 11, .inl sf)), (e0, .inr (0, [.ref eh, .ref eo, .ref ev, .ref er, .int el])), (eh, .inl (cI, 40, .inl fh)), (w0, .inr (2, [.ref wa, .int sz2_29])), (wa, .inl (cI, 40, .inl g_29))] H := hP
  have hD : va_D A [(h0, .inr (1, [.ref e0, .int nt, .ref w0, .ref v0, .ref sa, .int lw, .int mm, .int rk])), (sa, .inl (cI, 11, .inl sf)), (e0, .inr (0, [.ref eh, .ref eo, .ref ev, .ref er, .int el])), (eh, .inl (cI, 40, .inl fh)), (w0, .inr (2, [.ref wa, .int sz2_29])), (wa, .inl (cI, 40, .inl g_29))] := hD
  have hw_29 : (rowIs sz2_29 g_29 (L.take ((psum (cnt (ka lo Hh) L) (bk lo (Hh x))) + ((cnt (ka lo Hh) L) (bk lo (Hh x)))) ++ x :: L.drop ((psum (cnt (ka lo Hh) L) (bk lo (Hh x))) + ((cnt (ka lo Hh) L) (bk lo (Hh x)))))) := hw_29
  have v_29 := hw_29
  refine lv_aload_n hx hb dX1_put_32 rfl (lv_at hl 1 rfl) ?_
  refine lv_iload_n hx hb dX1_put_33 rfl (lv_at hl 0 rfl) ?_
  refine lz_iconst hx hb dX1_put_34 (fun x_34 v_34 => ?_)
  refine cm_v (wr := [(e0, .inr (0, [.ref eh, .ref eo, .ref ev, .ref er, .int el])), (eh, .inl (cI, 40, .inl fh)), (w0, .inr (2, [.ref wa, .int sz2_29])), (wa, .inl (cI, 40, .inl g_29))]) (va_runV (As := [.int x_9, .int x_34]) (rest := []) ⟨hx, hb, hml, hown, hts⟩ (k_X1_resize l D cI cZ cJ cK _ h0 x_9 x_34 e0 nt w0 v0 sa lw mm rk sf (cnt (ka lo Hh) L) (bk lo (Hh x)) 1 (hsz) (v_9.trans (congrArg iI (by omega))) (by omega) (v_34.trans (congrArg iI (by omega)))) (cwV 2 hts (gV qw277 qw279 qw4 qw12 qw280) rfl rfl rfl (by decide +kernel) ⟨Nat.le_of_ble_eq_true rfl, Nat.le_of_ble_eq_true rfl⟩) (pv (ci := 1) (r := (RX1, TX1, 8)) (q0 := 0) hP hD hK hT hZ hS [0, 1] rfl rfl rfl rfl) rfl rfl hl.1 rfl (lv_room (Nat.le_of_ble_eq_true rfl)) dX1_put_35 ⟨Nat.le_of_ble_eq_true rfl, Nat.le_of_ble_eq_true rfl⟩) hS hP hD hA [0, 1] [2, 3, 4, 5] rfl rfl rfl (by decide) (fun u_35 H locs hw_35 hP hD hS => ?_)
  obtain ⟨sf2_35, rfl⟩ : ∃ z, z = u_35 := ⟨_, rfl⟩
  have hP : va_P D vwCl [(e0, .inr (0, [.ref eh, .ref eo, .ref ev, .ref er, .int el])), (eh, .inl (cI, 40, .inl fh)), (w0, .inr (2, [.ref wa, .int sz2_29])), (wa, .inl (cI, 40, .inl g_29)), (h0, .inr (1, [.ref e0, .int nt, .ref w0, .ref v0, .ref sa, .int lw, .int mm, .int rk])), (sa, .inl (cI, 11, .inl sf2_35))] H := hP
  have hD : va_D A [(e0, .inr (0, [.ref eh, .ref eo, .ref ev, .ref er, .int el])), (eh, .inl (cI, 40, .inl fh)), (w0, .inr (2, [.ref wa, .int sz2_29])), (wa, .inl (cI, 40, .inl g_29)), (h0, .inr (1, [.ref e0, .int nt, .ref w0, .ref v0, .ref sa, .int lw, .int mm, .int rk])), (sa, .inl (cI, 11, .inl sf2_35))] := hD
  have hw_35 : (sf2_35 = upd sf (bk lo (Hh x)) (iI (↑((cnt (ka lo Hh) L) (bk lo (Hh x))) + 1))) := hw_35
  have v_35 := hw_35
  have hP9 := va_P_subm (ws' := [(h0, .inr (1, [.ref e0, .int nt, .ref w0, .ref v0, .ref sa, .int lw, .int mm, .int rk])), (w0, .inr (2, [.ref wa, .int sz2_29])), (wa, .inl (cI, 40, .inl g_29)), (sa, .inl (cI, 11, .inl sf2_35)), (e0, .inr (0, [.ref eh, .ref eo, .ref ev, .ref er, .int el])), (eh, .inl (cI, 40, .inl fh))]) hP [4, 2, 3, 5, 0, 1] rfl
  have hD9 := hD.sub (ws' := [(h0, .inr (1, [.ref e0, .int nt, .ref w0, .ref v0, .ref sa, .int lw, .int mm, .int rk])), (w0, .inr (2, [.ref wa, .int sz2_29])), (wa, .inl (cI, 40, .inl g_29)), (sa, .inl (cI, 11, .inl sf2_35)), (e0, .inr (0, [.ref eh, .ref eo, .ref ev, .ref er, .int el])), (eh, .inl (cI, 40, .inl fh))]) [4, 2, 3, 5, 0, 1] rfl rfl
  exact W.vret hx hb hr (fun t ht hW => ⟨⟨⟨sz2_29, g_29, sf2_35⟩, rfl, heaIs_ins hhe hl4 hxn v_29 v_35, ⟨by rw [ht]; exact hP9, hD9⟩⟩, hS.F ht⟩) hS.2.2 dX1_put_38
set_option maxHeartbeats 4000000 in
set_option maxRecDepth 100000 in
theorem k_X1_takeOut (l : Launch) (D : va_G) (cI cZ cJ cK : ClassId) (hz9 : Nat) (h0 : Nat) (x0 : Int32) (e0 : Nat) (nt : Int32) (w0 : Nat) (v0 : Nat) (sa : Nat) (lw : Int32) (mm : Int32) (rk : Int32) (wa : Nat) (sz : Int32) (f : Nat → Int32) (sf : Nat → Int32) (eh : Nat) (eo : Nat) (ev : Nat) (er : Nat) (el : Int32) (fh : Nat → Int32) (lo n x : Nat) (Hh : Nat → Nat) (L : List Nat) (hem : embIs el fh n Hh) (hhe : heaIs lw sz f sf lo n Hh L) (hxv : x0 = iI ↑x) (hxL : x ∈ L) : Met l yX1_takeOut (ws_ yX1_takeOut cX1_takeOut 3 (Option.none : Option Jvm.ClassFile.FieldType)) ({ frames := 2, cells := 0, slots := 0, locals := 51 }) (va_Pc [.ref h0, .int x0] (wPre D cI cZ cJ cK hz9 [(h0, .inr (1, [.ref e0, .int nt, .ref w0, .ref v0, .ref sa, .int lw, .int mm, .int rk])), (w0, .inr (2, [.ref wa, .int sz])), (wa, .inl (cI, 40, .inl f)), (sa, .inl (cI, 11, .inl sf)), (e0, .inr (0, [.ref eh, .ref eo, .ref ev, .ref er, .int el])), (eh, .inl (cI, 40, .inl fh))])) (va_Qv (fun (u : Int32 × (Nat → Int32) × (Nat → Int32)) => (heaIs lw u.1 u.2.1 u.2.2 lo n Hh (del L x))) (fun (u : Int32 × (Nat → Int32) × (Nat → Int32)) t => wPost D (va_A [(h0, .inr (1, [.ref e0, .int nt, .ref w0, .ref v0, .ref sa, .int lw, .int mm, .int rk])), (w0, .inr (2, [.ref wa, .int sz])), (wa, .inl (cI, 40, .inl f)), (sa, .inl (cI, 11, .inl sf)), (e0, .inr (0, [.ref eh, .ref eo, .ref ev, .ref er, .int el])), (eh, .inl (cI, 40, .inl fh))] hz9) [(h0, .inr (1, [.ref e0, .int nt, .ref w0, .ref v0, .ref sa, .int lw, .int mm, .int rk])), (w0, .inr (2, [.ref wa, .int u.1])), (wa, .inl (cI, 40, .inl u.2.1)), (sa, .inl (cI, 11, .inl u.2.2)), (e0, .inr (0, [.ref eh, .ref eo, .ref ev, .ref er, .int el])), (eh, .inl (cI, 40, .inl fh))] t) (va_A [(h0, .inr (1, [.ref e0, .int nt, .ref w0, .ref v0, .ref sa, .int lw, .int mm, .int rk])), (w0, .inr (2, [.ref wa, .int sz])), (wa, .inl (cI, 40, .inl f)), (sa, .inl (cI, 11, .inl sf)), (e0, .inr (0, [.ref eh, .ref eo, .ref ev, .ref er, .int el])), (eh, .inl (cI, 40, .inl fh))] hz9)) 0 0 (va_A [(h0, .inr (1, [.ref e0, .int nt, .ref w0, .ref v0, .ref sa, .int lw, .int mm, .int rk])), (w0, .inr (2, [.ref wa, .int sz])), (wa, .inl (cI, 40, .inl f)), (sa, .inl (cI, 11, .inl sf)), (e0, .inr (0, [.ref eh, .ref eo, .ref ev, .ref er, .int el])), (eh, .inl (cI, 40, .inl fh))] hz9) := by
  refine Met.ofW (cc := cX1_takeOut) (maxL := 3) (ret := (Option.none : Option Jvm.ClassFile.FieldType)) (by decide) rfl ?_
  intro p e s m args below meth c s₁ hBd hml hv
  obtain ⟨rfl, hsz, hP, hD, hK, hT, hZ⟩ := hv
  have hx := hBd.exec
  have hb := hBd.bytes
  have hr := hBd.returns
  have hts : ∀ w ∈ lw_G, w.before _ s = true := fun w h => atoms_spec (ws := (ws_ yX1_takeOut cX1_takeOut 3 (Option.none : Option Jvm.ClassFile.FieldType))) hBd.pre w (List.mem_cons_of_mem _ h)
  have hown : s.vm.findClass RX1 = some m.cls := findClass_of_methodNamed hBd.named
  have hlocks := hBd.notSynchronized
  subst hsz
  have hD := hD.self (sz := s.heap.size)
  have hZA := hZ.own hP
  generalize hAe : va_A [(h0, .inr (1, [.ref e0, .int nt, .ref w0, .ref v0, .ref sa, .int lw, .int mm, .int rk])), (w0, .inr (2, [.ref wa, .int sz])), (wa, .inl (cI, 40, .inl f)), (sa, .inl (cI, 11, .inl sf)), (e0, .inr (0, [.ref eh, .ref eo, .ref ev, .ref er, .int el])), (eh, .inl (cI, 40, .inl fh))] s.heap.size = A at hD hZA ⊢
  have hA : ∀ q : Nat, s.heap.size ≤ q → A q := fun q h => by rw [← hAe]; exact Or.inr h
  have hZ := hZA
  have hS : va_S A s.heap s.heap [] := va_S.rf
  have hl := lv_entry ([.ref h0, .int x0]) (n := 3) (Nat.le_of_ble_eq_true rfl)
  rw [lg_entry_eq]
  generalize (lg_sl ([.ref h0, .int x0]) ++ List.replicate (3 - (lg_sl ([.ref h0, .int x0])).length) Slot.unset).toArray = ls at hl ⊢
  have hl : lv_has ls 3 [(0, .ref h0), (1, .int x0)] := hl
  have hP : va_P D vwCl [(h0, .inr (1, [.ref e0, .int nt, .ref w0, .ref v0, .ref sa, .int lw, .int mm, .int rk])), (w0, .inr (2, [.ref wa, .int sz])), (wa, .inl (cI, 40, .inl f)), (sa, .inl (cI, 11, .inl sf)), (e0, .inr (0, [.ref eh, .ref eo, .ref ev, .ref er, .int el])), (eh, .inl (cI, 40, .inl fh))] s.heap := hP
  obtain ⟨hlo, hlo4, hrow, hsz, hLx⟩ := id hhe
  obtain ⟨hn, hn4, hfh⟩ := id hem
  have hxn := hLx x hxL
  have hxH := hfh x hxn
  have hb10 := bk_le10 hlo4 hxH.2
  have hl4 := hrow.2.1
  have hix := List.idxOf_lt_length_of_mem hxL
  refine lv_aload_n hx hb dX1_takeOut_0 rfl (lv_at hl 0 rfl) ?_
  refine va_get (D := D) (ci := 1) (v := .ref w0) (C := RX1) (T := TX1) (N := 8) hx hb hts iX1 hown hK hP 0 rfl rfl 2 (by decide) (hts _ qw76) (fun _ h9 => h9) rfl dX1_takeOut_1 ?_
  refine lv_iload_n hx hb dX1_takeOut_4 rfl (lv_at hl 1 rfl) ?_
  refine cr_i (va_runV (As := [.int x0]) (rest := []) ⟨hx, hb, hml, hown, hts⟩ (k_X2_placeOf l D cI cZ cJ cK _ w0 x0 wa sz f L x (hrow) (hxv.trans (congrArg iI (by omega))) (by omega) (fun y hy => by have := hLx y hy; omega) (hxL)) (cwV 1 hts (gV qw289 qw290 qw291 qw13 qw292) rfl rfl rfl (by decide +kernel) ⟨Nat.le_of_ble_eq_true rfl, Nat.le_of_ble_eq_true rfl⟩) (pv (ci := 2) (r := (RX2, TX2, 2)) (q0 := 1) hP hD hK hT hZ hS [1, 2] rfl rfl rfl rfl) rfl rfl hl.1 rfl (lv_room (Nat.le_of_ble_eq_true rfl)) dX1_takeOut_5 ⟨Nat.le_of_ble_eq_true rfl, Nat.le_of_ble_eq_true rfl⟩) hS hP (fun x_5 H locs hw_5 hP hS => ?_)
  have hw_5 : (x_5 = iI (↑(L.idxOf x))) := hw_5
  have v_5 := hw_5
  refine lv_istore_n (lv' := [(2, .int x_5), (0, .ref h0), (1, .int x0)]) hx hb dX1_takeOut_8 rfl hl (by decide) rfl (fun ls hl => ?_)
  refine lv_iload_n hx hb dX1_takeOut_9 rfl (lv_at hl 0 rfl) ?_
  refine lz_iconst hx hb dX1_takeOut_10 (fun x_10 v_10 => ?_)
  refine lz_icmp_eq (tgt := 39) hx hb v_5 v_10 ⟨by omega, by omega⟩ dX1_takeOut_11 (by decide) (fun c_11 => ?_) (fun c_11 => ?_)
  · exfalso; omega
  · refine lv_aload_n hx hb dX1_takeOut_14 rfl (lv_at hl 1 rfl) ?_
    refine va_get (D := D) (ci := 1) (v := .ref w0) (C := RX1) (T := TX1) (N := 8) hx hb hts iX1 hown hK hP 0 rfl rfl 2 (by decide) (hts _ qw76) (fun _ h9 => h9) rfl dX1_takeOut_15 ?_
    refine lv_iload_n hx hb dX1_takeOut_18 rfl (lv_at hl 0 rfl) ?_
    refine cm_v (wr := [(h0, .inr (1, [.ref e0, .int nt, .ref w0, .ref v0, .ref sa, .int lw, .int mm, .int rk])), (sa, .inl (cI, 11, .inl sf)), (e0, .inr (0, [.ref eh, .ref eo, .ref ev, .ref er, .int el])), (eh, .inl (cI, 40, .inl fh))]) (va_runV (As := [.int x_5]) (rest := []) ⟨hx, hb, hml, hown, hts⟩ (k_X2_removeAt l D cI cZ cJ cK _ w0 x_5 wa sz f L (L.idxOf x) (hrow) (v_5.trans (congrArg iI (by omega))) (by omega)) (cwV 1 hts (gV qw293 qw294 qw295 qw13 qw296) rfl rfl rfl (by decide +kernel) ⟨Nat.le_of_ble_eq_true rfl, Nat.le_of_ble_eq_true rfl⟩) (pv (ci := 2) (r := (RX2, TX2, 2)) (q0 := 1) hP hD hK hT hZ hS [1, 2] rfl rfl rfl rfl) rfl rfl hl.1 rfl (lv_room (Nat.le_of_ble_eq_true rfl)) dX1_takeOut_19 ⟨Nat.le_of_ble_eq_true rfl, Nat.le_of_ble_eq_true rfl⟩) hS hP hD hA [1, 2] [0, 3, 4, 5] rfl rfl rfl (by decide) (fun u_19 H locs hw_19 hP hD hS => ?_)
    obtain ⟨sz2_19, g_19⟩ := u_19
    have hP : va_P D vwCl [(h0, .inr (1, [.ref e0, .int nt, .ref w0, .ref v0, .ref sa, .int lw, .int mm, .int rk])), (sa, .inl (cI, 11, .inl sf)), (e0, .inr (0, [.ref eh, .ref eo, .ref ev, .ref er, .int el])), (eh, .inl (cI, 40, .inl fh)), (w0, .inr (2, [.ref wa, .int sz2_19])), (wa, .inl (cI, 40, .inl g_19))] H := hP
    have hD : va_D A [(h0, .inr (1, [.ref e0, .int nt, .ref w0, .ref v0, .ref sa, .int lw, .int mm, .int rk])), (sa, .inl (cI, 11, .inl sf)), (e0, .inr (0, [.ref eh, .ref eo, .ref ev, .ref er, .int el])), (eh, .inl (cI, 40, .inl fh)), (w0, .inr (2, [.ref wa, .int sz2_19])), (wa, .inl (cI, 40, .inl g_19))] := hD
    have hw_19 : (rowIs sz2_19 g_19 (L.take (L.idxOf x) ++ L.drop ((L.idxOf x) + 1))) := hw_19
    have v_19 := hw_19
    refine lv_aload_n hx hb dX1_takeOut_22 rfl (lv_at hl 1 rfl) ?_
    refine lv_aload_n hx hb dX1_takeOut_23 rfl (lv_at hl 1 rfl) ?_
    refine lv_aload_n hx hb dX1_takeOut_24 rfl (lv_at hl 1 rfl) ?_
    refine va_get (D := D) (ci := 1) (v := .ref e0) (C := RX1) (T := TX1) (N := 8) hx hb hts iX1 hown hK hP 0 rfl rfl 0 (by decide) (hts _ qw74) (fun _ h9 => h9) rfl dX1_takeOut_25 ?_
    refine lv_iload_n hx hb dX1_takeOut_28 rfl (lv_at hl 2 rfl) ?_
    refine cr_i (va_runV (As := [.int x0]) (rest := [.ref h0, .ref h0]) ⟨hx, hb, hml, hown, hts⟩ (k_X0_heatOf l D cI cZ cJ cK _ e0 x0 eh eo ev er el fh n x (hn) (hn4) (hxv.trans (congrArg iI (by omega))) (hxn)) (cwV 1 hts (gV qw235 qw236 qw237 qw11 qw238) rfl rfl rfl (by decide +kernel) ⟨Nat.le_of_ble_eq_true rfl, Nat.le_of_ble_eq_true rfl⟩) (pv (ci := 0) (r := (RX0, TX0, 5)) (q0 := 2) hP hD hK hT hZ hS [2, 3] rfl rfl rfl rfl) rfl rfl hl.1 rfl (lv_room (Nat.le_of_ble_eq_true rfl)) dX1_takeOut_29 ⟨Nat.le_of_ble_eq_true rfl, Nat.le_of_ble_eq_true rfl⟩) hS hP (fun x_29 H locs hw_29 hP hS => ?_)
    have hw_29 : (x_29 = fh x) := hw_29
    have v_29 := hw_29
    refine cr_i (va_runV (As := [.int x_29]) (rest := [.ref h0]) ⟨hx, hb, hml, hown, hts⟩ (k_X1_bucketFor l D cI cZ cJ cK _ h0 x_29 e0 nt w0 v0 sa lw mm rk lo (Hh x) (hlo) (hlo4) ((v_29.trans (hfh _ (hxn)).1).trans (congrArg iI (by omega))) (hxH.2)) (cwV 1 hts (gV qw269 qw270 qw271 qw12 qw272) rfl rfl rfl (by decide +kernel) ⟨Nat.le_of_ble_eq_true rfl, Nat.le_of_ble_eq_true rfl⟩) (pv (ci := 1) (r := (RX1, TX1, 8)) (q0 := 0) hP hD hK hT hZ hS [0] rfl rfl rfl rfl) rfl rfl hl.1 rfl (lv_room (Nat.le_of_ble_eq_true rfl)) dX1_takeOut_32 ⟨Nat.le_of_ble_eq_true rfl, Nat.le_of_ble_eq_true rfl⟩) hS hP (fun x_32 H locs hw_32 hP hS => ?_)
    have hw_32 : (x_32 = iI (↑(bk lo (Hh x)))) := hw_32
    have v_32 := hw_32
    refine lz_iconst hx hb dX1_takeOut_35 (fun x_35 v_35 => ?_)
    refine cm_v (wr := [(e0, .inr (0, [.ref eh, .ref eo, .ref ev, .ref er, .int el])), (eh, .inl (cI, 40, .inl fh)), (w0, .inr (2, [.ref wa, .int sz2_19])), (wa, .inl (cI, 40, .inl g_19))]) (va_runV (As := [.int x_32, .int x_35]) (rest := []) ⟨hx, hb, hml, hown, hts⟩ (k_X1_resize l D cI cZ cJ cK _ h0 x_32 x_35 e0 nt w0 v0 sa lw mm rk sf (cnt (ka lo Hh) L) (bk lo (Hh x)) (-1) (hsz) (v_32.trans (congrArg iI (by omega))) (by omega) (v_35.trans (congrArg iI (by omega)))) (cwV 2 hts (gV qw277 qw279 qw4 qw12 qw280) rfl rfl rfl (by decide +kernel) ⟨Nat.le_of_ble_eq_true rfl, Nat.le_of_ble_eq_true rfl⟩) (pv (ci := 1) (r := (RX1, TX1, 8)) (q0 := 0) hP hD hK hT hZ hS [0, 1] rfl rfl rfl rfl) rfl rfl hl.1 rfl (lv_room (Nat.le_of_ble_eq_true rfl)) dX1_takeOut_36 ⟨Nat.le_of_ble_eq_true rfl, Nat.le_of_ble_eq_true rfl⟩) hS hP hD hA [0, 1] [2, 3, 4, 5] rfl rfl rfl (by decide) (fun u_36 H locs hw_36 hP hD hS => ?_)
    obtain ⟨sf2_36, rfl⟩ : ∃ z, z = u_36 := ⟨_, rfl⟩
    have hP : va_P D vwCl [(e0, .inr (0, [.ref eh, .ref eo, .ref ev, .ref er, .int el])), (eh, .inl (cI, 40, .inl fh)), (w0, .inr (2, [.ref wa, .int sz2_19])), (wa, .inl (cI, 40, .inl g_19)), (h0, .inr (1, [.ref e0, .int nt, .ref w0, .ref v0, .ref sa, .int lw, .int mm, .int rk])), (sa, .inl (cI, 11, .inl sf2_36))] H := hP
    have hD : va_D A [(e0, .inr (0, [.ref eh, .ref eo, .ref ev, .ref er, .int el])), (eh, .inl (cI, 40, .inl fh)), (w0, .inr (2, [.ref wa, .int sz2_19])), (wa, .inl (cI, 40, .inl g_19)), (h0, .inr (1, [.ref e0, .int nt, .ref w0, .ref v0, .ref sa, .int lw, .int mm, .int rk])), (sa, .inl (cI, 11, .inl sf2_36))] := hD
    have hw_36 : (sf2_36 = upd sf (bk lo (Hh x)) (iI (↑((cnt (ka lo Hh) L) (bk lo (Hh x))) + (-1)))) := hw_36
    have v_36 := hw_36
    have hP9 := va_P_subm (ws' := [(h0, .inr (1, [.ref e0, .int nt, .ref w0, .ref v0, .ref sa, .int lw, .int mm, .int rk])), (w0, .inr (2, [.ref wa, .int sz2_19])), (wa, .inl (cI, 40, .inl g_19)), (sa, .inl (cI, 11, .inl sf2_36)), (e0, .inr (0, [.ref eh, .ref eo, .ref ev, .ref er, .int el])), (eh, .inl (cI, 40, .inl fh))]) hP [4, 2, 3, 5, 0, 1] rfl
    have hD9 := hD.sub (ws' := [(h0, .inr (1, [.ref e0, .int nt, .ref w0, .ref v0, .ref sa, .int lw, .int mm, .int rk])), (w0, .inr (2, [.ref wa, .int sz2_19])), (wa, .inl (cI, 40, .inl g_19)), (sa, .inl (cI, 11, .inl sf2_36)), (e0, .inr (0, [.ref eh, .ref eo, .ref ev, .ref er, .int el])), (eh, .inl (cI, 40, .inl fh))]) [4, 2, 3, 5, 0, 1] rfl rfl
    exact W.vret hx hb hr (fun t ht hW => ⟨⟨⟨sz2_19, g_19, sf2_36⟩, rfl, heaIs_del hhe hxL v_19 v_36, ⟨by rw [ht]; exact hP9, hD9⟩⟩, hS.F ht⟩) hS.2.2 dX1_takeOut_39
