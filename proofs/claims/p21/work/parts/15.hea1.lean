set_option maxHeartbeats 4000000 in
set_option maxRecDepth 100000 in
theorem k_X1_size (l : Launch) (D : va_G) (cI cZ cJ cK : ClassId) (hz9 : Nat) (h0 : Nat) (e0 : Nat) (nt : Int32) (w0 : Nat) (v0 : Nat) (sa : Nat) (lw : Int32) (mm : Int32) (rk : Int32) (wa : Nat) (sz : Int32)   : Met l yX1_size (ws_ yX1_size cX1_size 1 (Option.some .int)) ({ frames := 1, cells := 0, slots := 0, locals := 20 }) (va_Pc [.ref h0] (wPre D cI cZ cJ cK hz9 [(h0, .inr (1, [.ref e0, .int nt, .ref w0, .ref v0, .ref sa, .int lw, .int mm, .int rk])), (w0, .inr (2, [.ref wa, .int sz]))])) (va_Qi (fun r (_ : Unit) => (r = sz)) (fun _ _ => True) (fun _ => False)) 0 0 (fun _ => False) := by
  refine Met.ofW (cc := cX1_size) (maxL := 1) (ret := (Option.some .int)) (by decide) rfl ?_
  intro p e s m args below meth c s₁ hBd hml hv
  obtain ⟨rfl, hsz, hP, hD, hK, hT, hZ⟩ := hv
  have hx := hBd.exec
  have hb := hBd.bytes
  have hr := hBd.returns
  have hts : ∀ w ∈ lw_G, w.before _ s = true := fun w h => atoms_spec (ws := (ws_ yX1_size cX1_size 1 (Option.some .int))) hBd.pre w (List.mem_cons_of_mem _ h)
  have hown : s.vm.findClass RX1 = some m.cls := findClass_of_methodNamed hBd.named
  have hlocks := hBd.notSynchronized
  subst hsz
  have hS : va_S (fun _ => False) s.heap s.heap [] := va_S.rf
  have hl := lv_entry ([.ref h0]) (n := 1) (Nat.le_of_ble_eq_true rfl)
  rw [lg_entry_eq]
  generalize (lg_sl ([.ref h0]) ++ List.replicate (1 - (lg_sl ([.ref h0])).length) Slot.unset).toArray = ls at hl ⊢
  have hl : lv_has ls 1 [(0, .ref h0)] := hl
  have hP : va_P D vwCl [(h0, .inr (1, [.ref e0, .int nt, .ref w0, .ref v0, .ref sa, .int lw, .int mm, .int rk])), (w0, .inr (2, [.ref wa, .int sz]))] s.heap := hP
  refine lv_aload_n hx hb dX1_size_0 rfl (lv_at hl 0 rfl) ?_
  refine va_get (D := D) (ci := 1) (v := .ref w0) (C := RX1) (T := TX1) (N := 8) hx hb hts iX1 hown hK hP 0 rfl rfl 2 (by decide) (hts _ qw76) (fun _ h9 => h9) rfl dX1_size_1 ?_
  refine cr_i (va_runV (As := []) (rest := []) ⟨hx, hb, hml, hown, hts⟩ (k_X2_size l D cI cZ cJ cK _ w0 wa sz ) (cwV 0 hts (gV qw195 qw196 qw197 qw13 qw198) rfl rfl rfl (by decide +kernel) ⟨Nat.le_of_ble_eq_true rfl, Nat.le_of_ble_eq_true rfl⟩) (pv (ci := 2) (r := (RX2, TX2, 2)) (q0 := 1) hP hD hK hT hZ hS [1] rfl rfl rfl rfl) rfl rfl hl.1 rfl (lv_room (Nat.le_of_ble_eq_true rfl)) dX1_size_4 ⟨Nat.le_of_ble_eq_true rfl, Nat.le_of_ble_eq_true rfl⟩) hS hP (fun x_4 H locs hw_4 hP hS => ?_)
  have hw_4 : (x_4 = sz) := hw_4
  have v_4 := hw_4
  exact W.iret (v := x_4) hx hb hr (fun t ht hW => ⟨⟨x_4, (), rfl, v_4, trivial⟩, hS.F ht⟩) hS.2.2 dX1_size_7
set_option maxHeartbeats 4000000 in
set_option maxRecDepth 100000 in
theorem k_X1_low (l : Launch) (D : va_G) (cI cZ cJ cK : ClassId) (hz9 : Nat) (h0 : Nat) (e0 : Nat) (nt : Int32) (w0 : Nat) (v0 : Nat) (sa : Nat) (lw : Int32) (mm : Int32) (rk : Int32)   : Met l yX1_low (ws_ yX1_low cX1_low 1 (Option.some .int)) ({ frames := 0, cells := 0, slots := 0, locals := 0 }) (va_Pc [.ref h0] (wPre D cI cZ cJ cK hz9 [(h0, .inr (1, [.ref e0, .int nt, .ref w0, .ref v0, .ref sa, .int lw, .int mm, .int rk]))])) (va_Qi (fun r (_ : Unit) => (r = lw)) (fun _ _ => True) (fun _ => False)) 0 0 (fun _ => False) := by
  refine Met.ofW (cc := cX1_low) (maxL := 1) (ret := (Option.some .int)) (by decide) rfl ?_
  intro p e s m args below meth c s₁ hBd hml hv
  obtain ⟨rfl, hsz, hP, hD, hK, hT, hZ⟩ := hv
  have hx := hBd.exec
  have hb := hBd.bytes
  have hr := hBd.returns
  have hts : ∀ w ∈ lw_G, w.before _ s = true := fun w h => atoms_spec (ws := (ws_ yX1_low cX1_low 1 (Option.some .int))) hBd.pre w (List.mem_cons_of_mem _ h)
  have hown : s.vm.findClass RX1 = some m.cls := findClass_of_methodNamed hBd.named
  have hlocks := hBd.notSynchronized
  subst hsz
  have hS : va_S (fun _ => False) s.heap s.heap [] := va_S.rf
  have hl := lv_entry ([.ref h0]) (n := 1) (Nat.le_of_ble_eq_true rfl)
  rw [lg_entry_eq]
  generalize (lg_sl ([.ref h0]) ++ List.replicate (1 - (lg_sl ([.ref h0])).length) Slot.unset).toArray = ls at hl ⊢
  have hl : lv_has ls 1 [(0, .ref h0)] := hl
  have hP : va_P D vwCl [(h0, .inr (1, [.ref e0, .int nt, .ref w0, .ref v0, .ref sa, .int lw, .int mm, .int rk]))] s.heap := hP
  refine lv_aload_n hx hb dX1_low_0 rfl (lv_at hl 0 rfl) ?_
  refine va_get (D := D) (ci := 1) (v := .int lw) (C := RX1) (T := TX1) (N := 8) hx hb hts iX1 hown hK hP 0 rfl rfl 5 (by decide) (hts _ qw79) (fun _ h9 => h9) rfl dX1_low_1 ?_
  exact W.iret (v := lw) hx hb hr (fun t ht hW => ⟨⟨lw, (), rfl, rfl, trivial⟩, hS.F ht⟩) hS.2.2 dX1_low_4
set_option maxHeartbeats 4000000 in
set_option maxRecDepth 100000 in
theorem k_X1_movesMade (l : Launch) (D : va_G) (cI cZ cJ cK : ClassId) (hz9 : Nat) (h0 : Nat) (e0 : Nat) (nt : Int32) (w0 : Nat) (v0 : Nat) (sa : Nat) (lw : Int32) (mm : Int32) (rk : Int32)   : Met l yX1_movesMade (ws_ yX1_movesMade cX1_movesMade 1 (Option.some .int)) ({ frames := 0, cells := 0, slots := 0, locals := 0 }) (va_Pc [.ref h0] (wPre D cI cZ cJ cK hz9 [(h0, .inr (1, [.ref e0, .int nt, .ref w0, .ref v0, .ref sa, .int lw, .int mm, .int rk]))])) (va_Qi (fun r (_ : Unit) => (r = mm)) (fun _ _ => True) (fun _ => False)) 0 0 (fun _ => False) := by
  refine Met.ofW (cc := cX1_movesMade) (maxL := 1) (ret := (Option.some .int)) (by decide) rfl ?_
  intro p e s m args below meth c s₁ hBd hml hv
  obtain ⟨rfl, hsz, hP, hD, hK, hT, hZ⟩ := hv
  have hx := hBd.exec
  have hb := hBd.bytes
  have hr := hBd.returns
  have hts : ∀ w ∈ lw_G, w.before _ s = true := fun w h => atoms_spec (ws := (ws_ yX1_movesMade cX1_movesMade 1 (Option.some .int))) hBd.pre w (List.mem_cons_of_mem _ h)
  have hown : s.vm.findClass RX1 = some m.cls := findClass_of_methodNamed hBd.named
  have hlocks := hBd.notSynchronized
  subst hsz
  have hS : va_S (fun _ => False) s.heap s.heap [] := va_S.rf
  have hl := lv_entry ([.ref h0]) (n := 1) (Nat.le_of_ble_eq_true rfl)
  rw [lg_entry_eq]
  generalize (lg_sl ([.ref h0]) ++ List.replicate (1 - (lg_sl ([.ref h0])).length) Slot.unset).toArray = ls at hl ⊢
  have hl : lv_has ls 1 [(0, .ref h0)] := hl
  have hP : va_P D vwCl [(h0, .inr (1, [.ref e0, .int nt, .ref w0, .ref v0, .ref sa, .int lw, .int mm, .int rk]))] s.heap := hP
  refine lv_aload_n hx hb dX1_movesMade_0 rfl (lv_at hl 0 rfl) ?_
  refine va_get (D := D) (ci := 1) (v := .int mm) (C := RX1) (T := TX1) (N := 8) hx hb hts iX1 hown hK hP 0 rfl rfl 6 (by decide) (hts _ qw80) (fun _ h9 => h9) rfl dX1_movesMade_1 ?_
  exact W.iret (v := mm) hx hb hr (fun t ht hW => ⟨⟨mm, (), rfl, rfl, trivial⟩, hS.F ht⟩) hS.2.2 dX1_movesMade_4
set_option maxHeartbeats 4000000 in
set_option maxRecDepth 100000 in
theorem k_X1_rakes (l : Launch) (D : va_G) (cI cZ cJ cK : ClassId) (hz9 : Nat) (h0 : Nat) (e0 : Nat) (nt : Int32) (w0 : Nat) (v0 : Nat) (sa : Nat) (lw : Int32) (mm : Int32) (rk : Int32)   : Met l yX1_rakes (ws_ yX1_rakes cX1_rakes 1 (Option.some .int)) ({ frames := 0, cells := 0, slots := 0, locals := 0 }) (va_Pc [.ref h0] (wPre D cI cZ cJ cK hz9 [(h0, .inr (1, [.ref e0, .int nt, .ref w0, .ref v0, .ref sa, .int lw, .int mm, .int rk]))])) (va_Qi (fun r (_ : Unit) => (r = rk)) (fun _ _ => True) (fun _ => False)) 0 0 (fun _ => False) := by
  refine Met.ofW (cc := cX1_rakes) (maxL := 1) (ret := (Option.some .int)) (by decide) rfl ?_
  intro p e s m args below meth c s₁ hBd hml hv
  obtain ⟨rfl, hsz, hP, hD, hK, hT, hZ⟩ := hv
  have hx := hBd.exec
  have hb := hBd.bytes
  have hr := hBd.returns
  have hts : ∀ w ∈ lw_G, w.before _ s = true := fun w h => atoms_spec (ws := (ws_ yX1_rakes cX1_rakes 1 (Option.some .int))) hBd.pre w (List.mem_cons_of_mem _ h)
  have hown : s.vm.findClass RX1 = some m.cls := findClass_of_methodNamed hBd.named
  have hlocks := hBd.notSynchronized
  subst hsz
  have hS : va_S (fun _ => False) s.heap s.heap [] := va_S.rf
  have hl := lv_entry ([.ref h0]) (n := 1) (Nat.le_of_ble_eq_true rfl)
  rw [lg_entry_eq]
  generalize (lg_sl ([.ref h0]) ++ List.replicate (1 - (lg_sl ([.ref h0])).length) Slot.unset).toArray = ls at hl ⊢
  have hl : lv_has ls 1 [(0, .ref h0)] := hl
  have hP : va_P D vwCl [(h0, .inr (1, [.ref e0, .int nt, .ref w0, .ref v0, .ref sa, .int lw, .int mm, .int rk]))] s.heap := hP
  refine lv_aload_n hx hb dX1_rakes_0 rfl (lv_at hl 0 rfl) ?_
  refine va_get (D := D) (ci := 1) (v := .int rk) (C := RX1) (T := TX1) (N := 8) hx hb hts iX1 hown hK hP 0 rfl rfl 7 (by decide) (hts _ qw81) (fun _ h9 => h9) rfl dX1_rakes_1 ?_
  exact W.iret (v := rk) hx hb hr (fun t ht hW => ⟨⟨rk, (), rfl, rfl, trivial⟩, hS.F ht⟩) hS.2.2 dX1_rakes_4
set_option maxHeartbeats 4000000 in
set_option maxRecDepth 100000 in
theorem k_X1_takesHeat (l : Launch) (D : va_G) (cI cZ cJ cK : ClassId) (hz9 : Nat) (h0 : Nat) (x0 : Int32) (e0 : Nat) (nt : Int32) (w0 : Nat) (v0 : Nat) (sa : Nat) (lw : Int32) (mm : Int32) (rk : Int32) (lo : Nat) (x : Int) (hlo : lw = iI ↑lo) (hlo4 : lo < 1024) (hxv : x0 = iI x) (hxr : -2147483648 ≤ x ∧ x < 2147483648) : Met l yX1_takesHeat (ws_ yX1_takesHeat cX1_takesHeat 2 (Option.some .boolean)) ({ frames := 0, cells := 0, slots := 0, locals := 0 }) (va_Pc [.ref h0, .int x0] (wPre D cI cZ cJ cK hz9 [(h0, .inr (1, [.ref e0, .int nt, .ref w0, .ref v0, .ref sa, .int lw, .int mm, .int rk]))])) (va_Qi (fun r (_ : Unit) => (r = iI (if (↑lo : Int) ≤ x ∧ x ≤ 1023 then 1 else 0))) (fun _ _ => True) (fun _ => False)) 0 0 (fun _ => False) := by
  refine Met.ofW (cc := cX1_takesHeat) (maxL := 2) (ret := (Option.some .boolean)) (by decide) rfl ?_
  intro p e s m args below meth c s₁ hBd hml hv
  obtain ⟨rfl, hsz, hP, hD, hK, hT, hZ⟩ := hv
  have hx := hBd.exec
  have hb := hBd.bytes
  have hr := hBd.returns
  have hts : ∀ w ∈ lw_G, w.before _ s = true := fun w h => atoms_spec (ws := (ws_ yX1_takesHeat cX1_takesHeat 2 (Option.some .boolean))) hBd.pre w (List.mem_cons_of_mem _ h)
  have hown : s.vm.findClass RX1 = some m.cls := findClass_of_methodNamed hBd.named
  have hlocks := hBd.notSynchronized
  subst hsz
  have hS : va_S (fun _ => False) s.heap s.heap [] := va_S.rf
  have hl := lv_entry ([.ref h0, .int x0]) (n := 2) (Nat.le_of_ble_eq_true rfl)
  rw [lg_entry_eq]
  generalize (lg_sl ([.ref h0, .int x0]) ++ List.replicate (2 - (lg_sl ([.ref h0, .int x0])).length) Slot.unset).toArray = ls at hl ⊢
  have hl : lv_has ls 2 [(0, .ref h0), (1, .int x0)] := hl
  have hP : va_P D vwCl [(h0, .inr (1, [.ref e0, .int nt, .ref w0, .ref v0, .ref sa, .int lw, .int mm, .int rk]))] s.heap := hP
  refine lv_iload_n hx hb dX1_takesHeat_0 rfl (lv_at hl 1 rfl) ?_
  refine lv_aload_n hx hb dX1_takesHeat_1 rfl (lv_at hl 0 rfl) ?_
  refine va_get (D := D) (ci := 1) (v := .int lw) (C := RX1) (T := TX1) (N := 8) hx hb hts iX1 hown hK hP 0 rfl rfl 5 (by decide) (hts _ qw79) (fun _ h9 => h9) rfl dX1_takesHeat_2 ?_
  refine lz_icmp_lt (tgt := 19) hx hb hxv hlo ⟨by omega, by omega⟩ dX1_takesHeat_5 (by decide) (fun c_5 => ?_) (fun c_5 => ?_)
  · refine lz_iconst hx hb dX1_takesHeat_19 (fun x_19 v_19 => ?_)
    exact W.zret (v := x_19) (ty := .boolean) hx hb hr (by rw [v_19]; decide) (fun t ht hW => ⟨⟨x_19, (), rfl, v_19.trans (congrArg iI (by omega)), trivial⟩, hS.F ht⟩) hS.2.2 dX1_takesHeat_20
  · refine lv_iload_n hx hb dX1_takesHeat_8 rfl (lv_at hl 1 rfl) ?_
    refine lz_sipush hx hb (by decide) dX1_takesHeat_9 (fun x_9 v_9 => ?_)
    refine lz_icmp_gt (tgt := 19) hx hb hxv v_9 ⟨by omega, by omega⟩ dX1_takesHeat_12 (by decide) (fun c_12 => ?_) (fun c_12 => ?_)
    · refine lz_iconst hx hb dX1_takesHeat_19 (fun x_19 v_19 => ?_)
      exact W.zret (v := x_19) (ty := .boolean) hx hb hr (by rw [v_19]; decide) (fun t ht hW => ⟨⟨x_19, (), rfl, v_19.trans (congrArg iI (by omega)), trivial⟩, hS.F ht⟩) hS.2.2 dX1_takesHeat_20
    · refine lz_iconst hx hb dX1_takesHeat_15 (fun x_15 v_15 => ?_)
      refine lv_goto (tgt := 20) hx hb dX1_takesHeat_16 (by decide) ?_
      exact W.zret (v := x_15) (ty := .boolean) hx hb hr (by rw [v_15]; decide) (fun t ht hW => ⟨⟨x_15, (), rfl, v_15.trans (congrArg iI (by omega)), trivial⟩, hS.F ht⟩) hS.2.2 dX1_takesHeat_20
set_option maxHeartbeats 4000000 in
set_option maxRecDepth 100000 in
theorem k_X1_bucketFor (l : Launch) (D : va_G) (cI cZ cJ cK : ClassId) (hz9 : Nat) (h0 : Nat) (x0 : Int32) (e0 : Nat) (nt : Int32) (w0 : Nat) (v0 : Nat) (sa : Nat) (lw : Int32) (mm : Int32) (rk : Int32) (lo x : Nat) (hlo : lw = iI ↑lo) (hlo4 : lo < 1024) (hxv : x0 = iI ↑x) (hx4 : x < 1024) : Met l yX1_bucketFor (ws_ yX1_bucketFor cX1_bucketFor 4 (Option.some .int)) ({ frames := 0, cells := 0, slots := 0, locals := 0 }) (va_Pc [.ref h0, .int x0] (wPre D cI cZ cJ cK hz9 [(h0, .inr (1, [.ref e0, .int nt, .ref w0, .ref v0, .ref sa, .int lw, .int mm, .int rk]))])) (va_Qi (fun r (_ : Unit) => (r = iI (↑(bk lo x)))) (fun _ _ => True) (fun _ => False)) 0 0 (fun _ => False) := by
  refine Met.ofW (cc := cX1_bucketFor) (maxL := 4) (ret := (Option.some .int)) (by decide) rfl ?_
  intro p e s m args below meth c s₁ hBd hml hv
  obtain ⟨rfl, hsz, hP, hD, hK, hT, hZ⟩ := hv
  have hx := hBd.exec
  have hb := hBd.bytes
  have hr := hBd.returns
  have hts : ∀ w ∈ lw_G, w.before _ s = true := fun w h => atoms_spec (ws := (ws_ yX1_bucketFor cX1_bucketFor 4 (Option.some .int))) hBd.pre w (List.mem_cons_of_mem _ h)
  have hown : s.vm.findClass RX1 = some m.cls := findClass_of_methodNamed hBd.named
  have hlocks := hBd.notSynchronized
  subst hsz
  have hS : va_S (fun _ => False) s.heap s.heap [] := va_S.rf
  have hl := lv_entry ([.ref h0, .int x0]) (n := 4) (Nat.le_of_ble_eq_true rfl)
  rw [lg_entry_eq]
  generalize (lg_sl ([.ref h0, .int x0]) ++ List.replicate (4 - (lg_sl ([.ref h0, .int x0])).length) Slot.unset).toArray = ls at hl ⊢
  have hl : lv_has ls 4 [(0, .ref h0), (1, .int x0)] := hl
  have hP : va_P D vwCl [(h0, .inr (1, [.ref e0, .int nt, .ref w0, .ref v0, .ref sa, .int lw, .int mm, .int rk]))] s.heap := hP
  have hb10 := bk_le10 hlo4 hx4
  have hx4b := xor_lt hlo4 hx4
  refine lv_aload_n hx hb dX1_bucketFor_0 rfl (lv_at hl 0 rfl) ?_
  refine va_get (D := D) (ci := 1) (v := .int lw) (C := RX1) (T := TX1) (N := 8) hx hb hts iX1 hown hK hP 0 rfl rfl 5 (by decide) (hts _ qw79) (fun _ h9 => h9) rfl dX1_bucketFor_1 ?_
  refine lv_iload_n hx hb dX1_bucketFor_4 rfl (lv_at hl 1 rfl) ?_
  refine lv_ixor hx hb dX1_bucketFor_5 ?_
  refine lv_topi (fun x_5 e_5 => ?_)
  have v_5 : x_5 = iI (↑(lo ^^^ x)) := by rw [e_5, hlo, hxv]; exact xor_I hlo4 hx4
  refine lv_istore_n (lv' := [(2, .int x_5), (0, .ref h0), (1, .int x0)]) hx hb dX1_bucketFor_6 rfl hl (by decide) rfl (fun ls hl => ?_)
  refine lz_iconst hx hb dX1_bucketFor_7 (fun x_7 v_7 => ?_)
  refine lv_istore_n (lv' := [(3, .int x_7), (2, .int x_5), (0, .ref h0), (1, .int x0)]) hx hb dX1_bucketFor_8 rfl hl (by decide) rfl (fun ls hl => ?_)
  have key9 : ∀ (fu : Nat) (i : Nat) (ii : Int32) (H : Heap) (locs : List Loc) (ls : Array Slot), bk lo x + 1 - i < fu → (ii = iI (↑i)) → (i ≤ bk lo x) → va_P D vwCl [(h0, .inr (1, [.ref e0, .int nt, .ref w0, .ref v0, .ref sa, .int lw, .int mm, .int rk]))] H → va_S (fun _ => False) s.heap H locs → lv_has ls 4 [(3, .int ii), (2, .int x_5), (0, .ref h0), (1, .int x0)] → W p l e (headSpec (ws_ yX1_bucketFor cX1_bucketFor 4 (Option.some .int)) ({ frames := 0, cells := 0, slots := 0, locals := 0 })).room s m ([.ref h0, .int x0] : List Value).toArray below meth c H locs 0 0 (MQ below (va_Qi (fun r (_ : Unit) => (r = iI (↑(bk lo x)))) (fun _ _ => True) (fun _ => False)) ([.ref h0, .int x0] : List Value).toArray s 0 0 (fun _ => False)) (F0 m 9 ls []) := by
    intro fu
    induction fu with
    | zero => intros; omega
    | succ fu ih9 =>
      intro i ii H locs ls hfu hi hle hP hS hl
      refine lv_iload_n hx hb dX1_bucketFor_9 rfl (lv_at hl 0 rfl) ?_
      refine lz_bipush hx hb (by decide) dX1_bucketFor_10 (fun x_10 v_10 => ?_)
      refine lz_icmp_ge (tgt := 27) hx hb hi v_10 ⟨by omega, by omega⟩ dX1_bucketFor_12 (by decide) (fun c_12 => ?_) (fun c_12 => ?_)
      · refine lv_iload_n hx hb dX1_bucketFor_27 rfl (lv_at hl 0 rfl) ?_
        exact W.iret (v := ii) hx hb hr (fun t ht hW => ⟨⟨ii, (), rfl, hi.trans (congrArg iI (by omega)), trivial⟩, hS.F ht⟩) hS.2.2 dX1_bucketFor_28
      · refine lv_iload_n hx hb dX1_bucketFor_15 rfl (lv_at hl 1 rfl) ?_
        refine lv_iload_n hx hb dX1_bucketFor_16 rfl (lv_at hl 0 rfl) ?_
        refine lv_ishr hx hb dX1_bucketFor_17 ?_
        refine lv_topi (fun x_17 e_17 => ?_)
        have v_17 : x_17 = iI (↑((lo ^^^ x) / 2 ^ i)) := by rw [e_17, v_5, hi]; exact shr_I hx4b (by omega)
        refine lz_if_eq (tgt := 27) hx hb v_17 (div_rg hx4b) dX1_bucketFor_18 (by decide) (fun c_18 => ?_) (fun c_18 => ?_)
        · have hz18 := bk_of_div c_18
          refine lv_iload_n hx hb dX1_bucketFor_27 rfl (lv_at hl 0 rfl) ?_
          exact W.iret (v := ii) hx hb hr (fun t ht hW => ⟨⟨ii, (), rfl, hi.trans (congrArg iI (by omega)), trivial⟩, hS.F ht⟩) hS.2.2 dX1_bucketFor_28
        · have hz18 := bk_of_ndiv c_18
          refine lz_iinc (lv2 := fun z => [(3, .int z), (2, .int x_5), (0, .ref h0), (1, .int x0)]) hx hb dX1_bucketFor_21 hl (k := 0) rfl hi (by decide) (fun _ => rfl) (fun x_21 ls v_21 hl => ?_)
          refine lv_goto (tgt := 9) hx hb dX1_bucketFor_24 (by decide) ?_
          exact ih9 (i + 1) x_21 _ _ _ (by omega) (v_21.trans (congrArg iI (by omega))) (by omega) hP hS (lv_sub hl [0, 1, 2, 3] rfl)
  exact key9 _ 0 x_7 _ _ _ (Nat.lt_succ_self _) (v_7.trans (congrArg iI (by omega))) (Nat.zero_le _) hP hS (lv_sub hl [0, 1, 2, 3] rfl)
set_option maxHeartbeats 4000000 in
set_option maxRecDepth 100000 in
theorem k_X1_sizeOf (l : Launch) (D : va_G) (cI cZ cJ cK : ClassId) (hz9 : Nat) (h0 : Nat) (b0 : Int32) (e0 : Nat) (nt : Int32) (w0 : Nat) (v0 : Nat) (sa : Nat) (lw : Int32) (mm : Int32) (rk : Int32) (sf : Nat → Int32) (cn : Nat → Nat) (z : Int) (hsz : szC sf cn) (hzv : b0 = iI z) (hzr : -1 ≤ z ∧ z < 11) : Met l yX1_sizeOf (ws_ yX1_sizeOf cX1_sizeOf 2 (Option.some .int)) ({ frames := 0, cells := 0, slots := 0, locals := 0 }) (va_Pc [.ref h0, .int b0] (wPre D cI cZ cJ cK hz9 [(h0, .inr (1, [.ref e0, .int nt, .ref w0, .ref v0, .ref sa, .int lw, .int mm, .int rk])), (sa, .inl (cI, 11, .inl sf))])) (va_Qi (fun r (_ : Unit) => (r = iI (szA cn z))) (fun _ _ => True) (fun _ => False)) 0 0 (fun _ => False) := by
  refine Met.ofW (cc := cX1_sizeOf) (maxL := 2) (ret := (Option.some .int)) (by decide) rfl ?_
  intro p e s m args below meth c s₁ hBd hml hv
  obtain ⟨rfl, hsz, hP, hD, hK, hT, hZ⟩ := hv
  have hx := hBd.exec
  have hb := hBd.bytes
  have hr := hBd.returns
  have hts : ∀ w ∈ lw_G, w.before _ s = true := fun w h => atoms_spec (ws := (ws_ yX1_sizeOf cX1_sizeOf 2 (Option.some .int))) hBd.pre w (List.mem_cons_of_mem _ h)
  have hown : s.vm.findClass RX1 = some m.cls := findClass_of_methodNamed hBd.named
  have hlocks := hBd.notSynchronized
  subst hsz
  have hS : va_S (fun _ => False) s.heap s.heap [] := va_S.rf
  have hl := lv_entry ([.ref h0, .int b0]) (n := 2) (Nat.le_of_ble_eq_true rfl)
  rw [lg_entry_eq]
  generalize (lg_sl ([.ref h0, .int b0]) ++ List.replicate (2 - (lg_sl ([.ref h0, .int b0])).length) Slot.unset).toArray = ls at hl ⊢
  have hl : lv_has ls 2 [(0, .ref h0), (1, .int b0)] := hl
  have hP : va_P D vwCl [(h0, .inr (1, [.ref e0, .int nt, .ref w0, .ref v0, .ref sa, .int lw, .int mm, .int rk])), (sa, .inl (cI, 11, .inl sf))] s.heap := hP
  refine lv_iload_n hx hb dX1_sizeOf_0 rfl (lv_at hl 1 rfl) ?_
  refine lz_if_lt (tgt := 19) hx hb hzv (by omega) dX1_sizeOf_1 (by decide) (fun c_1 => ?_) (fun c_1 => ?_)
  · refine lz_iconst hx hb dX1_sizeOf_19 (fun x_19 v_19 => ?_)
    exact W.iret (v := x_19) hx hb hr (fun t ht hW => ⟨⟨x_19, (), rfl, by first | exact v_15.trans (congrArg iI (by unfold szA; rw [if_pos (by omega)])) | exact v_19.trans (congrArg iI (by unfold szA; rw [if_neg (by omega)])), trivial⟩, hS.F ht⟩) hS.2.2 dX1_sizeOf_20
  · refine lv_iload_n hx hb dX1_sizeOf_4 rfl (lv_at hl 1 rfl) ?_
    refine lz_bipush hx hb (by decide) dX1_sizeOf_5 (fun x_5 v_5 => ?_)
    refine lz_icmp_ge (tgt := 19) hx hb hzv v_5 ⟨by omega, by omega⟩ dX1_sizeOf_7 (by decide) (fun c_7 => ?_) (fun c_7 => ?_)
    · refine lz_iconst hx hb dX1_sizeOf_19 (fun x_19 v_19 => ?_)
      exact W.iret (v := x_19) hx hb hr (fun t ht hW => ⟨⟨x_19, (), rfl, by first | exact v_15.trans (congrArg iI (by unfold szA; rw [if_pos (by omega)])) | exact v_19.trans (congrArg iI (by unfold szA; rw [if_neg (by omega)])), trivial⟩, hS.F ht⟩) hS.2.2 dX1_sizeOf_20
    · refine lv_aload_n hx hb dX1_sizeOf_10 rfl (lv_at hl 0 rfl) ?_
      refine va_get (D := D) (ci := 1) (v := .ref sa) (C := RX1) (T := TX1) (N := 8) hx hb hts iX1 hown hK hP 0 rfl rfl 4 (by decide) (hts _ qw78) (fun _ h9 => h9) rfl dX1_sizeOf_11 ?_
      refine lv_iload_n hx hb dX1_sizeOf_14 rfl (lv_at hl 1 rfl) ?_
      refine lz_iald hx hb hK hP 1 0 rfl rfl hzv (z.toNat) (by omega) (by omega) (by decide) dX1_sizeOf_15 (fun x_15 e_15 => ?_)
      have v_15 : x_15 = iI (↑(cn z.toNat)) := e_15.trans (hsz.1 _ (by omega))
      refine lv_goto (tgt := 20) hx hb dX1_sizeOf_16 (by decide) ?_
      exact W.iret (v := x_15) hx hb hr (fun t ht hW => ⟨⟨x_15, (), rfl, by first | exact v_15.trans (congrArg iI (by unfold szA; rw [if_pos (by omega)])) | exact v_19.trans (congrArg iI (by unfold szA; rw [if_neg (by omega)])), trivial⟩, hS.F ht⟩) hS.2.2 dX1_sizeOf_20
set_option maxHeartbeats 4000000 in
set_option maxRecDepth 100000 in
theorem k_X1_firstBucket (l : Launch) (D : va_G) (cI cZ cJ cK : ClassId) (hz9 : Nat) (h0 : Nat) (e0 : Nat) (nt : Int32) (w0 : Nat) (v0 : Nat) (sa : Nat) (lw : Int32) (mm : Int32) (rk : Int32) (sf : Nat → Int32) (cn : Nat → Nat) (z : Int) (hsz : szC sf cn) (hf : isFst cn z) : Met l yX1_firstBucket (ws_ yX1_firstBucket cX1_firstBucket 2 (Option.some .int)) ({ frames := 0, cells := 0, slots := 0, locals := 0 }) (va_Pc [.ref h0] (wPre D cI cZ cJ cK hz9 [(h0, .inr (1, [.ref e0, .int nt, .ref w0, .ref v0, .ref sa, .int lw, .int mm, .int rk])), (sa, .inl (cI, 11, .inl sf))])) (va_Qi (fun r (_ : Unit) => (r = iI (z))) (fun _ _ => True) (fun _ => False)) 0 0 (fun _ => False) := by
  refine Met.ofW (cc := cX1_firstBucket) (maxL := 2) (ret := (Option.some .int)) (by decide) rfl ?_
  intro p e s m args below meth c s₁ hBd hml hv
  obtain ⟨rfl, hsz, hP, hD, hK, hT, hZ⟩ := hv
  have hx := hBd.exec
  have hb := hBd.bytes
  have hr := hBd.returns
  have hts : ∀ w ∈ lw_G, w.before _ s = true := fun w h => atoms_spec (ws := (ws_ yX1_firstBucket cX1_firstBucket 2 (Option.some .int))) hBd.pre w (List.mem_cons_of_mem _ h)
  have hown : s.vm.findClass RX1 = some m.cls := findClass_of_methodNamed hBd.named
  have hlocks := hBd.notSynchronized
  subst hsz
  have hS : va_S (fun _ => False) s.heap s.heap [] := va_S.rf
  have hl := lv_entry ([.ref h0]) (n := 2) (Nat.le_of_ble_eq_true rfl)
  rw [lg_entry_eq]
  generalize (lg_sl ([.ref h0]) ++ List.replicate (2 - (lg_sl ([.ref h0])).length) Slot.unset).toArray = ls at hl ⊢
  have hl : lv_has ls 2 [(0, .ref h0)] := hl
  have hP : va_P D vwCl [(h0, .inr (1, [.ref e0, .int nt, .ref w0, .ref v0, .ref sa, .int lw, .int mm, .int rk])), (sa, .inl (cI, 11, .inl sf))] s.heap := hP
  refine lz_iconst hx hb dX1_firstBucket_0 (fun x_0 v_0 => ?_)
  refine lv_istore_n (lv' := [(1, .int x_0), (0, .ref h0)]) hx hb dX1_firstBucket_1 rfl hl (by decide) rfl (fun ls hl => ?_)
  have key2 : ∀ (fu : Nat) (i : Nat) (ii : Int32) (H : Heap) (locs : List Loc) (ls : Array Slot), 12 - i < fu → (ii = iI (↑i)) → (i ≤ 11) → (∀ j, j < i → cn j = 0) → va_P D vwCl [(h0, .inr (1, [.ref e0, .int nt, .ref w0, .ref v0, .ref sa, .int lw, .int mm, .int rk])), (sa, .inl (cI, 11, .inl sf))] H → va_S (fun _ => False) s.heap H locs → lv_has ls 2 [(1, .int ii), (0, .ref h0)] → W p l e (headSpec (ws_ yX1_firstBucket cX1_firstBucket 2 (Option.some .int)) ({ frames := 0, cells := 0, slots := 0, locals := 0 })).room s m ([.ref h0] : List Value).toArray below meth c H locs 0 0 (MQ below (va_Qi (fun r (_ : Unit) => (r = iI (z))) (fun _ _ => True) (fun _ => False)) ([.ref h0] : List Value).toArray s 0 0 (fun _ => False)) (F0 m 2 ls []) := by
    intro fu
    induction fu with
    | zero => intros; omega
    | succ fu ih2 =>
      intro i ii H locs ls hfu hi hle h0s hP hS hl
      refine lv_iload_n hx hb dX1_firstBucket_2 rfl (lv_at hl 0 rfl) ?_
      refine lz_bipush hx hb (by decide) dX1_firstBucket_3 (fun x_3 v_3 => ?_)
      refine lz_icmp_ge (tgt := 25) hx hb hi v_3 ⟨by omega, by omega⟩ dX1_firstBucket_5 (by decide) (fun c_5 => ?_) (fun c_5 => ?_)
      · refine lz_iconst hx hb dX1_firstBucket_25 (fun x_25 v_25 => ?_)
        exact W.iret (v := x_25) hx hb hr (fun t ht hW => ⟨⟨x_25, (), rfl, v_25.trans (congrArg iI (isFst_no hf (by omega) h0s).symm), trivial⟩, hS.F ht⟩) hS.2.2 dX1_firstBucket_26
      · refine lv_aload_n hx hb dX1_firstBucket_8 rfl (lv_at hl 1 rfl) ?_
        refine va_get (D := D) (ci := 1) (v := .ref sa) (C := RX1) (T := TX1) (N := 8) hx hb hts iX1 hown hK hP 0 rfl rfl 4 (by decide) (hts _ qw78) (fun _ h9 => h9) rfl dX1_firstBucket_9 ?_
        refine lv_iload_n hx hb dX1_firstBucket_12 rfl (lv_at hl 0 rfl) ?_
        have hpc := psum_at cn (a := i) (b := 11) (by omega)
        have hp11 := hsz.2
        refine lz_iald hx hb hK hP 1 0 rfl rfl hi (i) (by omega) (by omega) (by decide) dX1_firstBucket_13 (fun x_13 e_13 => ?_)
        have v_13 : x_13 = iI (↑(cn i)) := e_13.trans (hsz.1 _ (by omega))
        refine lz_if_le (tgt := 19) hx hb v_13 (by omega) dX1_firstBucket_14 (by decide) (fun c_14 => ?_) (fun c_14 => ?_)
        · refine lz_iinc (lv2 := fun z => [(1, .int z), (0, .ref h0)]) hx hb dX1_firstBucket_19 hl (k := 0) rfl hi (by decide) (fun _ => rfl) (fun x_19 ls v_19 hl => ?_)
          refine lv_goto (tgt := 2) hx hb dX1_firstBucket_22 (by decide) ?_
          exact ih2 (i + 1) x_19 _ _ _ (by omega) (v_19.trans (congrArg iI (by omega))) (by omega) (lt_next h0s (by omega)) hP hS (lv_sub hl [0, 1] rfl)
        · refine lv_iload_n hx hb dX1_firstBucket_17 rfl (lv_at hl 0 rfl) ?_
          exact W.iret (v := ii) hx hb hr (fun t ht hW => ⟨⟨ii, (), rfl, hi.trans (congrArg iI (isFst_at hf (by omega) h0s (by omega)).symm), trivial⟩, hS.F ht⟩) hS.2.2 dX1_firstBucket_18
  exact key2 _ 0 x_0 _ _ _ (Nat.lt_succ_self _) (v_0.trans (congrArg iI (by omega))) (by omega) (fun j hj => absurd hj (Nat.not_lt_zero j)) hP hS (lv_sub hl [0, 1] rfl)
set_option maxHeartbeats 4000000 in
set_option maxRecDepth 100000 in
theorem k_X1_lastBucket (l : Launch) (D : va_G) (cI cZ cJ cK : ClassId) (hz9 : Nat) (h0 : Nat) (e0 : Nat) (nt : Int32) (w0 : Nat) (v0 : Nat) (sa : Nat) (lw : Int32) (mm : Int32) (rk : Int32) (sf : Nat → Int32) (cn : Nat → Nat) (z : Int) (hsz : szC sf cn) (hf : isLst cn z) : Met l yX1_lastBucket (ws_ yX1_lastBucket cX1_lastBucket 2 (Option.some .int)) ({ frames := 0, cells := 0, slots := 0, locals := 0 }) (va_Pc [.ref h0] (wPre D cI cZ cJ cK hz9 [(h0, .inr (1, [.ref e0, .int nt, .ref w0, .ref v0, .ref sa, .int lw, .int mm, .int rk])), (sa, .inl (cI, 11, .inl sf))])) (va_Qi (fun r (_ : Unit) => (r = iI (z))) (fun _ _ => True) (fun _ => False)) 0 0 (fun _ => False) := by
  refine Met.ofW (cc := cX1_lastBucket) (maxL := 2) (ret := (Option.some .int)) (by decide) rfl ?_
  intro p e s m args below meth c s₁ hBd hml hv
  obtain ⟨rfl, hsz, hP, hD, hK, hT, hZ⟩ := hv
  have hx := hBd.exec
  have hb := hBd.bytes
  have hr := hBd.returns
  have hts : ∀ w ∈ lw_G, w.before _ s = true := fun w h => atoms_spec (ws := (ws_ yX1_lastBucket cX1_lastBucket 2 (Option.some .int))) hBd.pre w (List.mem_cons_of_mem _ h)
  have hown : s.vm.findClass RX1 = some m.cls := findClass_of_methodNamed hBd.named
  have hlocks := hBd.notSynchronized
  subst hsz
  have hS : va_S (fun _ => False) s.heap s.heap [] := va_S.rf
  have hl := lv_entry ([.ref h0]) (n := 2) (Nat.le_of_ble_eq_true rfl)
  rw [lg_entry_eq]
  generalize (lg_sl ([.ref h0]) ++ List.replicate (2 - (lg_sl ([.ref h0])).length) Slot.unset).toArray = ls at hl ⊢
  have hl : lv_has ls 2 [(0, .ref h0)] := hl
  have hP : va_P D vwCl [(h0, .inr (1, [.ref e0, .int nt, .ref w0, .ref v0, .ref sa, .int lw, .int mm, .int rk])), (sa, .inl (cI, 11, .inl sf))] s.heap := hP
  refine lz_bipush hx hb (by decide) dX1_lastBucket_0 (fun x_0 v_0 => ?_)
  refine lv_istore_n (lv' := [(1, .int x_0), (0, .ref h0)]) hx hb dX1_lastBucket_2 rfl hl (by decide) rfl (fun ls hl => ?_)
  have key3 : ∀ (fu : Nat) (i : Nat) (ii : Int32) (H : Heap) (locs : List Loc) (ls : Array Slot), i + 1 < fu → (ii = iI (↑i - 1)) → (i ≤ 11) → (∀ j, i - 1 < j → j < 11 → 0 < i → cn j = 0) → (i = 0 → ∀ j, j < 11 → cn j = 0) → va_P D vwCl [(h0, .inr (1, [.ref e0, .int nt, .ref w0, .ref v0, .ref sa, .int lw, .int mm, .int rk])), (sa, .inl (cI, 11, .inl sf))] H → va_S (fun _ => False) s.heap H locs → lv_has ls 2 [(1, .int ii), (0, .ref h0)] → W p l e (headSpec (ws_ yX1_lastBucket cX1_lastBucket 2 (Option.some .int)) ({ frames := 0, cells := 0, slots := 0, locals := 0 })).room s m ([.ref h0] : List Value).toArray below meth c H locs 0 0 (MQ below (va_Qi (fun r (_ : Unit) => (r = iI (z))) (fun _ _ => True) (fun _ => False)) ([.ref h0] : List Value).toArray s 0 0 (fun _ => False)) (F0 m 3 ls []) := by
    intro fu
    induction fu with
    | zero => intros; omega
    | succ fu ih3 =>
      intro i ii H locs ls hfu hi hle h0s h0t hP hS hl
      refine lv_iload_n hx hb dX1_lastBucket_3 rfl (lv_at hl 0 rfl) ?_
      refine lz_if_lt (tgt := 24) hx hb hi (by omega) dX1_lastBucket_4 (by decide) (fun c_4 => ?_) (fun c_4 => ?_)
      · refine lz_iconst hx hb dX1_lastBucket_24 (fun x_24 v_24 => ?_)
        exact W.iret (v := x_24) hx hb hr (fun t ht hW => ⟨⟨x_24, (), rfl, v_24.trans (congrArg iI (isLst_no hf (h0t (by omega))).symm), trivial⟩, hS.F ht⟩) hS.2.2 dX1_lastBucket_25
      · refine lv_aload_n hx hb dX1_lastBucket_7 rfl (lv_at hl 1 rfl) ?_
        refine va_get (D := D) (ci := 1) (v := .ref sa) (C := RX1) (T := TX1) (N := 8) hx hb hts iX1 hown hK hP 0 rfl rfl 4 (by decide) (hts _ qw78) (fun _ h9 => h9) rfl dX1_lastBucket_8 ?_
        refine lv_iload_n hx hb dX1_lastBucket_11 rfl (lv_at hl 0 rfl) ?_
        have hpc := psum_at cn (a := i - 1) (b := 11) (by omega)
        have hp11 := hsz.2
        refine lz_iald hx hb hK hP 1 0 rfl rfl hi (i - 1) (by omega) (by omega) (by decide) dX1_lastBucket_12 (fun x_12 e_12 => ?_)
        have v_12 : x_12 = iI (↑(cn (i - 1))) := e_12.trans (hsz.1 _ (by omega))
        refine lz_if_le (tgt := 18) hx hb v_12 (by omega) dX1_lastBucket_13 (by decide) (fun c_13 => ?_) (fun c_13 => ?_)
        · refine lz_iinc (lv2 := fun z => [(1, .int z), (0, .ref h0)]) hx hb dX1_lastBucket_18 hl (k := 0) rfl hi (by decide) (fun _ => rfl) (fun x_18 ls v_18 hl => ?_)
          refine lv_goto (tgt := 3) hx hb dX1_lastBucket_21 (by decide) ?_
          exact ih3 (i - 1) x_18 _ _ _ (by omega) (v_18.trans (congrArg iI (by omega))) (by omega) (fun j h1 h2 h3 => gt_next (fun j h1 h2 => h0s j h1 h2 (by omega)) (show cn (i - 1) = 0 by omega) j h1 h2) (fun h j hj => by rcases Nat.eq_zero_or_pos j with q | q; (have e : i - 1 = 0 := h; rw [q, ← e]; omega); exact h0s j (by omega) hj (by omega)) hP hS (lv_sub hl [0, 1] rfl)
        · refine lv_iload_n hx hb dX1_lastBucket_16 rfl (lv_at hl 0 rfl) ?_
          exact W.iret (v := ii) hx hb hr (fun t ht hW => ⟨⟨ii, (), rfl, hi.trans (congrArg iI (by rw [isLst_at hf (show i - 1 < 11 by omega) (fun j h1 h2 => h0s j h1 h2 (by omega)) (by omega)]; omega)), trivial⟩, hS.F ht⟩) hS.2.2 dX1_lastBucket_17
  exact key3 _ 11 x_0 _ _ _ (Nat.lt_succ_self _) (v_0.trans (congrArg iI (by omega))) (by omega) (fun j h1 h2 _ => by omega) (fun h => by omega) hP hS (lv_sub hl [0, 1] rfl)
set_option maxHeartbeats 4000000 in
set_option maxRecDepth 100000 in
theorem k_X1_startOf (l : Launch) (D : va_G) (cI cZ cJ cK : ClassId) (hz9 : Nat) (h0 : Nat) (b0 : Int32) (e0 : Nat) (nt : Int32) (w0 : Nat) (v0 : Nat) (sa : Nat) (lw : Int32) (mm : Int32) (rk : Int32) (sf : Nat → Int32) (cn : Nat → Nat) (b : Nat) (hsz : szC sf cn) (hbv : b0 = iI ↑b) (hb : b ≤ 11) : Met l yX1_startOf (ws_ yX1_startOf cX1_startOf 4 (Option.some .int)) ({ frames := 0, cells := 0, slots := 0, locals := 0 }) (va_Pc [.ref h0, .int b0] (wPre D cI cZ cJ cK hz9 [(h0, .inr (1, [.ref e0, .int nt, .ref w0, .ref v0, .ref sa, .int lw, .int mm, .int rk])), (sa, .inl (cI, 11, .inl sf))])) (va_Qi (fun r (_ : Unit) => (r = iI (↑(psum cn b)))) (fun _ _ => True) (fun _ => False)) 0 0 (fun _ => False) := by
  refine Met.ofW (cc := cX1_startOf) (maxL := 4) (ret := (Option.some .int)) (by decide) rfl ?_
  intro p e s m args below meth c s₁ hBd hml hv
  obtain ⟨rfl, hsz, hP, hD, hK, hT, hZ⟩ := hv
  have hx := hBd.exec
  have hb := hBd.bytes
  have hr := hBd.returns
  have hts : ∀ w ∈ lw_G, w.before _ s = true := fun w h => atoms_spec (ws := (ws_ yX1_startOf cX1_startOf 4 (Option.some .int))) hBd.pre w (List.mem_cons_of_mem _ h)
  have hown : s.vm.findClass RX1 = some m.cls := findClass_of_methodNamed hBd.named
  have hlocks := hBd.notSynchronized
  subst hsz
  have hS : va_S (fun _ => False) s.heap s.heap [] := va_S.rf
  have hl := lv_entry ([.ref h0, .int b0]) (n := 4) (Nat.le_of_ble_eq_true rfl)
  rw [lg_entry_eq]
  generalize (lg_sl ([.ref h0, .int b0]) ++ List.replicate (4 - (lg_sl ([.ref h0, .int b0])).length) Slot.unset).toArray = ls at hl ⊢
  have hl : lv_has ls 4 [(0, .ref h0), (1, .int b0)] := hl
  have hP : va_P D vwCl [(h0, .inr (1, [.ref e0, .int nt, .ref w0, .ref v0, .ref sa, .int lw, .int mm, .int rk])), (sa, .inl (cI, 11, .inl sf))] s.heap := hP
  refine lz_iconst hx hb dX1_startOf_0 (fun x_0 v_0 => ?_)
  refine lv_istore_n (lv' := [(2, .int x_0), (0, .ref h0), (1, .int b0)]) hx hb dX1_startOf_1 rfl hl (by decide) rfl (fun ls hl => ?_)
  refine lz_iconst hx hb dX1_startOf_2 (fun x_2 v_2 => ?_)
  refine lv_istore_n (lv' := [(3, .int x_2), (2, .int x_0), (0, .ref h0), (1, .int b0)]) hx hb dX1_startOf_3 rfl hl (by decide) rfl (fun ls hl => ?_)
  have key4 : ∀ (fu : Nat) (i : Nat) (ii : Int32) (acc : Int32) (H : Heap) (locs : List Loc) (ls : Array Slot), 12 - i < fu → (ii = iI (↑i)) → (acc = iI (↑(psum cn i))) → (i ≤ b) → va_P D vwCl [(h0, .inr (1, [.ref e0, .int nt, .ref w0, .ref v0, .ref sa, .int lw, .int mm, .int rk])), (sa, .inl (cI, 11, .inl sf))] H → va_S (fun _ => False) s.heap H locs → lv_has ls 4 [(3, .int ii), (2, .int acc), (0, .ref h0), (1, .int b0)] → W p l e (headSpec (ws_ yX1_startOf cX1_startOf 4 (Option.some .int)) ({ frames := 0, cells := 0, slots := 0, locals := 0 })).room s m ([.ref h0, .int b0] : List Value).toArray below meth c H locs 0 0 (MQ below (va_Qi (fun r (_ : Unit) => (r = iI (↑(psum cn b)))) (fun _ _ => True) (fun _ => False)) ([.ref h0, .int b0] : List Value).toArray s 0 0 (fun _ => False)) (F0 m 4 ls []) := by
    intro fu
    induction fu with
    | zero => intros; omega
    | succ fu ih4 =>
      intro i ii acc H locs ls hfu hi ha hle hP hS hl
      refine lv_iload_n hx hb dX1_startOf_4 rfl (lv_at hl 0 rfl) ?_
      refine lv_iload_n hx hb dX1_startOf_5 rfl (lv_at hl 3 rfl) ?_
      refine lz_icmp_ge (tgt := 30) hx hb hi hbv ⟨by omega, by omega⟩ dX1_startOf_6 (by decide) (fun c_6 => ?_) (fun c_6 => ?_)
      · refine lv_iload_n hx hb dX1_startOf_30 rfl (lv_at hl 1 rfl) ?_
        exact W.iret (v := acc) hx hb hr (fun t ht hW => ⟨⟨acc, (), rfl, ha.trans (congrArg iI (by rw [show i = b by omega])), trivial⟩, hS.F ht⟩) hS.2.2 dX1_startOf_31
      · refine lv_iload_n hx hb dX1_startOf_9 rfl (lv_at hl 0 rfl) ?_
        refine lz_bipush hx hb (by decide) dX1_startOf_10 (fun x_10 v_10 => ?_)
        refine lz_icmp_ge (tgt := 30) hx hb hi v_10 ⟨by omega, by omega⟩ dX1_startOf_12 (by decide) (fun c_12 => ?_) (fun c_12 => ?_)
        · refine lv_iload_n hx hb dX1_startOf_30 rfl (lv_at hl 1 rfl) ?_
          exact W.iret (v := acc) hx hb hr (fun t ht hW => ⟨⟨acc, (), rfl, ha.trans (congrArg iI (by rw [show i = b by omega])), trivial⟩, hS.F ht⟩) hS.2.2 dX1_startOf_31
        · refine lv_iload_n hx hb dX1_startOf_15 rfl (lv_at hl 1 rfl) ?_
          refine lv_aload_n hx hb dX1_startOf_16 rfl (lv_at hl 2 rfl) ?_
          refine va_get (D := D) (ci := 1) (v := .ref sa) (C := RX1) (T := TX1) (N := 8) hx hb hts iX1 hown hK hP 0 rfl rfl 4 (by decide) (hts _ qw78) (fun _ h9 => h9) rfl dX1_startOf_17 ?_
          refine lv_iload_n hx hb dX1_startOf_20 rfl (lv_at hl 0 rfl) ?_
          refine lz_iald hx hb hK hP 1 0 rfl rfl hi (i) (by omega) (by omega) (by decide) dX1_startOf_21 (fun x_21 e_21 => ?_)
          have v_21 : x_21 = iI (↑(cn i)) := e_21.trans (hsz.1 _ (by omega))
          refine lz_iadd hx hb ha v_21 dX1_startOf_22 (fun x_22 v_22 => ?_)
          refine lv_istore_n (lv' := [(2, .int x_22), (3, .int ii), (0, .ref h0), (1, .int b0)]) hx hb dX1_startOf_23 rfl hl (by decide) rfl (fun ls hl => ?_)
          refine lz_iinc (lv2 := fun z => [(3, .int z), (2, .int x_22), (0, .ref h0), (1, .int b0)]) hx hb dX1_startOf_24 hl (k := 1) rfl hi (by decide) (fun _ => rfl) (fun x_24 ls v_24 hl => ?_)
          refine lv_goto (tgt := 4) hx hb dX1_startOf_27 (by decide) ?_
          exact ih4 (i + 1) x_24 x_22 _ _ _ (by omega) (v_24.trans (congrArg iI (by omega))) (v_22.trans (congrArg iI (by rw [psum_s]; omega))) (by omega) hP hS (lv_sub hl [0, 1, 2, 3] rfl)
  exact key4 _ 0 x_2 x_0 _ _ _ (Nat.lt_succ_self _) (v_2.trans (congrArg iI (by omega))) (v_0) (by omega) hP hS (lv_sub hl [0, 1, 2, 3] rfl)
set_option maxHeartbeats 4000000 in
set_option maxRecDepth 100000 in
theorem k_X1_resize (l : Launch) (D : va_G) (cI cZ cJ cK : ClassId) (hz9 : Nat) (h0 : Nat) (b0 : Int32) (d0 : Int32) (e0 : Nat) (nt : Int32) (w0 : Nat) (v0 : Nat) (sa : Nat) (lw : Int32) (mm : Int32) (rk : Int32) (sf : Nat → Int32) (cn : Nat → Nat) (b : Nat) (d : Int) (hsz : szC sf cn) (hbv : b0 = iI ↑b) (hb : b < 11) (hdv : d0 = iI d) : Met l yX1_resize (ws_ yX1_resize cX1_resize 3 (Option.none : Option Jvm.ClassFile.FieldType)) ({ frames := 0, cells := 0, slots := 0, locals := 0 }) (va_Pc [.ref h0, .int b0, .int d0] (wPre D cI cZ cJ cK hz9 [(h0, .inr (1, [.ref e0, .int nt, .ref w0, .ref v0, .ref sa, .int lw, .int mm, .int rk])), (sa, .inl (cI, 11, .inl sf))])) (va_Qv (fun (u : (Nat → Int32)) => (u = upd sf b (iI (↑(cn b) + d)))) (fun (u : (Nat → Int32)) t => wPost D (va_A [(h0, .inr (1, [.ref e0, .int nt, .ref w0, .ref v0, .ref sa, .int lw, .int mm, .int rk])), (sa, .inl (cI, 11, .inl sf))] hz9) [(h0, .inr (1, [.ref e0, .int nt, .ref w0, .ref v0, .ref sa, .int lw, .int mm, .int rk])), (sa, .inl (cI, 11, .inl u))] t) (va_A [(h0, .inr (1, [.ref e0, .int nt, .ref w0, .ref v0, .ref sa, .int lw, .int mm, .int rk])), (sa, .inl (cI, 11, .inl sf))] hz9)) 0 0 (va_A [(h0, .inr (1, [.ref e0, .int nt, .ref w0, .ref v0, .ref sa, .int lw, .int mm, .int rk])), (sa, .inl (cI, 11, .inl sf))] hz9) := by
  refine Met.ofW (cc := cX1_resize) (maxL := 3) (ret := (Option.none : Option Jvm.ClassFile.FieldType)) (by decide) rfl ?_
  intro p e s m args below meth c s₁ hBd hml hv
  obtain ⟨rfl, hsz, hP, hD, hK, hT, hZ⟩ := hv
  have hx := hBd.exec
  have hb := hBd.bytes
  have hr := hBd.returns
  have hts : ∀ w ∈ lw_G, w.before _ s = true := fun w h => atoms_spec (ws := (ws_ yX1_resize cX1_resize 3 (Option.none : Option Jvm.ClassFile.FieldType))) hBd.pre w (List.mem_cons_of_mem _ h)
  have hown : s.vm.findClass RX1 = some m.cls := findClass_of_methodNamed hBd.named
  have hlocks := hBd.notSynchronized
  subst hsz
  have hD := hD.self (sz := s.heap.size)
  have hZA := hZ.own hP
  generalize hAe : va_A [(h0, .inr (1, [.ref e0, .int nt, .ref w0, .ref v0, .ref sa, .int lw, .int mm, .int rk])), (sa, .inl (cI, 11, .inl sf))] s.heap.size = A at hD hZA ⊢
  have hA : ∀ q : Nat, s.heap.size ≤ q → A q := fun q h => by rw [← hAe]; exact Or.inr h
  have hZ := hZA
  have hS : va_S A s.heap s.heap [] := va_S.rf
  have hl := lv_entry ([.ref h0, .int b0, .int d0]) (n := 3) (Nat.le_of_ble_eq_true rfl)
  rw [lg_entry_eq]
  generalize (lg_sl ([.ref h0, .int b0, .int d0]) ++ List.replicate (3 - (lg_sl ([.ref h0, .int b0, .int d0])).length) Slot.unset).toArray = ls at hl ⊢
  have hl : lv_has ls 3 [(0, .ref h0), (1, .int b0), (2, .int d0)] := hl
  have hP : va_P D vwCl [(h0, .inr (1, [.ref e0, .int nt, .ref w0, .ref v0, .ref sa, .int lw, .int mm, .int rk])), (sa, .inl (cI, 11, .inl sf))] s.heap := hP
  refine lv_iload_n hx hb dX1_resize_0 rfl (lv_at hl 1 rfl) ?_
  refine lz_if_lt (tgt := 20) hx hb hbv (by omega) dX1_resize_1 (by decide) (fun c_1 => ?_) (fun c_1 => ?_)
  · exfalso; omega
  · refine lv_iload_n hx hb dX1_resize_4 rfl (lv_at hl 1 rfl) ?_
    refine lz_bipush hx hb (by decide) dX1_resize_5 (fun x_5 v_5 => ?_)
    refine lz_icmp_ge (tgt := 20) hx hb hbv v_5 ⟨by omega, by omega⟩ dX1_resize_7 (by decide) (fun c_7 => ?_) (fun c_7 => ?_)
    · exfalso; omega
    · refine lv_aload_n hx hb dX1_resize_10 rfl (lv_at hl 0 rfl) ?_
      refine va_get (D := D) (ci := 1) (v := .ref sa) (C := RX1) (T := TX1) (N := 8) hx hb hts iX1 hown hK hP 0 rfl rfl 4 (by decide) (hts _ qw78) (fun _ h9 => h9) rfl dX1_resize_11 ?_
      refine lv_iload_n hx hb dX1_resize_14 rfl (lv_at hl 1 rfl) ?_
      refine lv_dup2_11 hx hb dX1_resize_15 rfl rfl ?_
      refine lz_iald hx hb hK hP 1 0 rfl rfl hbv (b) (by omega) (by omega) (by decide) dX1_resize_16 (fun x_16 e_16 => ?_)
      have v_16 : x_16 = iI (↑(cn b)) := e_16.trans (hsz.1 _ (by omega))
      refine lv_iload_n hx hb dX1_resize_17 rfl (lv_at hl 2 rfl) ?_
      refine lz_iadd hx hb v_16 hdv dX1_resize_18 (fun x_18 v_18 => ?_)
      refine lz_iast hx hb hK hP hD hS 1 0 rfl rfl hbv (b) (by omega) (by omega) (by decide) (ws2 := fun z => [(h0, .inr (1, [.ref e0, .int nt, .ref w0, .ref v0, .ref sa, .int lw, .int mm, .int rk])), (sa, .inl (cI, 11, .inl z))]) (fun _ => rfl) dX1_resize_19 (fun f_19 H locs e_19 hP hD hS => ?_)
      have hP : va_P D vwCl [(h0, .inr (1, [.ref e0, .int nt, .ref w0, .ref v0, .ref sa, .int lw, .int mm, .int rk])), (sa, .inl (cI, 11, .inl f_19))] H := hP
      have hD : va_D A [(h0, .inr (1, [.ref e0, .int nt, .ref w0, .ref v0, .ref sa, .int lw, .int mm, .int rk])), (sa, .inl (cI, 11, .inl f_19))] := hD
      have hP9 := va_P_subm (ws' := [(h0, .inr (1, [.ref e0, .int nt, .ref w0, .ref v0, .ref sa, .int lw, .int mm, .int rk])), (sa, .inl (cI, 11, .inl f_19))]) hP [0, 1] rfl
      have hD9 := hD.sub (ws' := [(h0, .inr (1, [.ref e0, .int nt, .ref w0, .ref v0, .ref sa, .int lw, .int mm, .int rk])), (sa, .inl (cI, 11, .inl f_19))]) [0, 1] rfl rfl
      exact W.vret hx hb hr (fun t ht hW => ⟨⟨f_19, rfl, by rw [e_19, v_18], ⟨by rw [ht]; exact hP9, hD9⟩⟩, hS.F ht⟩) hS.2.2 dX1_resize_20
