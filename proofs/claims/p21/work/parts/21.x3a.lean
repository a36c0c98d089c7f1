theorem k_X1_leastHeat_k (l : Launch) (D : va_G) (cI cZ cJ cK : ClassId) (hz9 : Nat) (h0 : Nat) (e0 : Nat) (nt : Int32) (w0 : Nat) (v0 : Nat) (sa : Nat) (lw : Int32) (mm : Int32) (rk : Int32) (wa : Nat) (sz : Int32) (f : Nat → Int32) (sf : Nat → Int32) (eh : Nat) (eo : Nat) (ev : Nat) (er : Nat) (el : Int32) (fh : Nat → Int32) (lo n : Nat) (Hh : Nat → Nat) (L : List Nat) (hem : embIs el fh n Hh) (hhe : heaIs lw sz f sf lo n Hh L) (hok : heaOk lo Hh L) : Met l yX1_leastHeat (ws_ yX1_leastHeat cX1_leastHeat 4 (Option.some .int)) ({ frames := 2, cells := 0, slots := 0, locals := 42 }) (va_Pc [.ref h0] (wPre D cI cZ cJ cK hz9 [(h0, .inr (1, [.ref e0, .int nt, .ref w0, .ref v0, .ref sa, .int lw, .int mm, .int rk])), (w0, .inr (2, [.ref wa, .int sz])), (wa, .inl (cI, 40, .inl f)), (sa, .inl (cI, 11, .inl sf)), (e0, .inr (0, [.ref eh, .ref eo, .ref ev, .ref er, .int el])), (eh, .inl (cI, 40, .inl fh))])) (va_Qi (fun r (_ : Unit) => (r = iI (↑(minL Hh L)))) (fun _ _ => True) (fun _ => False)) 0 0 (fun _ => False) := by
  obtain ⟨hlo, hlo4, hrow, hsz, hLx⟩ := id hhe
  obtain ⟨m9, h1, h2, h3⟩ := least_of hok hlo4
  have h := k_X1_leastHeat l D cI cZ cJ cK hz9 h0 e0 nt w0 v0 sa lw mm rk wa sz f sf eh eo ev er el fh _ (fstL lo Hh L) m9 n Hh L hrow hsz (fst_of hok hlo4) h1 h2 hem hLx
  rw [h3] at h
  exact h
set_option maxHeartbeats 4000000 in
set_option maxRecDepth 100000 in
theorem k_X3_hearthOf_0 (l : Launch) (D : va_G) (cI cZ cJ cK : ClassId) (hz9 : Nat) (r0 : Nat) (h0 : Int32) (e0 : Nat) (z0 : Nat) (o0 : Nat) (t0 : Nat) (qn : Int32)  (hhv : h0 = iI (0)) : Met l yX3_hearthOf (ws_ yX3_hearthOf cX3_hearthOf 2 (Option.some (.object "RadixHearth$Hearth"))) ({ frames := 0, cells := 0, slots := 0, locals := 0 }) (va_Pc [.ref r0, .int h0] (wPre D cI cZ cJ cK hz9 [(r0, .inr (3, [.ref e0, .ref z0, .ref o0, .ref t0, .int qn]))])) (va_Qr (fun (_ : Unit) => True) (fun _ r _ => (r = z0)) (fun _ => False)) 0 0 (fun _ => False) := by
  refine Met.ofW (cc := cX3_hearthOf) (maxL := 2) (ret := (Option.some (.object "RadixHearth$Hearth"))) (by decide) rfl ?_
  intro p e s m args below meth c s₁ hBd hml hv
  obtain ⟨rfl, hsz, hP, hD, hK, hT, hZ⟩ := hv
  have hx := hBd.exec
  have hb := hBd.bytes
  have hr := hBd.returns
  have hts : ∀ w ∈ lw_G, w.before _ s = true := fun w h => atoms_spec (ws := (ws_ yX3_hearthOf cX3_hearthOf 2 (Option.some (.object "RadixHearth$Hearth")))) hBd.pre w (List.mem_cons_of_mem _ h)
  have hown : s.vm.findClass RX3 = some m.cls := findClass_of_methodNamed hBd.named
  have hlocks := hBd.notSynchronized
  subst hsz
  have hS : va_S (fun _ => False) s.heap s.heap [] := va_S.rf
  have hl := lv_entry ([.ref r0, .int h0]) (n := 2) (Nat.le_of_ble_eq_true rfl)
  rw [lg_entry_eq]
  generalize (lg_sl ([.ref r0, .int h0]) ++ List.replicate (2 - (lg_sl ([.ref r0, .int h0])).length) Slot.unset).toArray = ls at hl ⊢
  have hl : lv_has ls 2 [(0, .ref r0), (1, .int h0)] := hl
  have hP : va_P D vwCl [(r0, .inr (3, [.ref e0, .ref z0, .ref o0, .ref t0, .int qn]))] s.heap := hP
  refine lv_iload_n hx hb dX3_hearthOf_0 rfl (lv_at hl 1 rfl) ?_
  refine lz_if_lt (tgt := 9) hx hb hhv (by omega) dX3_hearthOf_1 (by decide) (fun c_1 => ?_) (fun c_1 => ?_)
  · exfalso; omega
  · refine lv_iload_n hx hb dX3_hearthOf_4 rfl (lv_at hl 1 rfl) ?_
    refine lz_iconst hx hb dX3_hearthOf_5 (fun x_5 v_5 => ?_)
    refine lz_icmp_lt (tgt := 19) hx hb hhv v_5 ⟨by omega, by omega⟩ dX3_hearthOf_6 (by decide) (fun c_6 => ?_) (fun c_6 => ?_)
    · refine lv_iload_n hx hb dX3_hearthOf_19 rfl (lv_at hl 1 rfl) ?_
      refine lz_if_ne (tgt := 30) hx hb hhv (by omega) dX3_hearthOf_20 (by decide) (fun c_20 => ?_) (fun c_20 => ?_)
      · exfalso; omega
      · refine lv_aload_n hx hb dX3_hearthOf_23 rfl (lv_at hl 0 rfl) ?_
        refine va_get (D := D) (ci := 3) (v := .ref z0) (C := RX3) (T := TX3) (N := 5) hx hb hts iX3 hown hK hP 0 rfl rfl 1 (by decide) (hts _ qw100) (fun _ h9 => h9) rfl dX3_hearthOf_24 ?_
        refine lv_goto (tgt := 34) hx hb dX3_hearthOf_27 (by decide) ?_
        exact W.aret (v := .ref z0) hx hb hr (Or.inl ⟨_, rfl⟩) (Or.inr ⟨_, rfl⟩) (fun t ht hW => ⟨⟨(), z0, rfl, trivial, rfl⟩, hS.F ht⟩) hS.2.2 dX3_hearthOf_34
    · exfalso; omega
set_option maxHeartbeats 4000000 in
set_option maxRecDepth 100000 in
theorem k_X3_hearthOf_1 (l : Launch) (D : va_G) (cI cZ cJ cK : ClassId) (hz9 : Nat) (r0 : Nat) (h0 : Int32) (e0 : Nat) (z0 : Nat) (o0 : Nat) (t0 : Nat) (qn : Int32)  (hhv : h0 = iI (1)) : Met l yX3_hearthOf (ws_ yX3_hearthOf cX3_hearthOf 2 (Option.some (.object "RadixHearth$Hearth"))) ({ frames := 0, cells := 0, slots := 0, locals := 0 }) (va_Pc [.ref r0, .int h0] (wPre D cI cZ cJ cK hz9 [(r0, .inr (3, [.ref e0, .ref z0, .ref o0, .ref t0, .int qn]))])) (va_Qr (fun (_ : Unit) => True) (fun _ r _ => (r = o0)) (fun _ => False)) 0 0 (fun _ => False) := by
  refine Met.ofW (cc := cX3_hearthOf) (maxL := 2) (ret := (Option.some (.object "RadixHearth$Hearth"))) (by decide) rfl ?_
  intro p e s m args below meth c s₁ hBd hml hv
  obtain ⟨rfl, hsz, hP, hD, hK, hT, hZ⟩ := hv
  have hx := hBd.exec
  have hb := hBd.bytes
  have hr := hBd.returns
  have hts : ∀ w ∈ lw_G, w.before _ s = true := fun w h => atoms_spec (ws := (ws_ yX3_hearthOf cX3_hearthOf 2 (Option.some (.object "RadixHearth$Hearth")))) hBd.pre w (List.mem_cons_of_mem _ h)
  have hown : s.vm.findClass RX3 = some m.cls := findClass_of_methodNamed hBd.named
  have hlocks := hBd.notSynchronized
  subst hsz
  have hS : va_S (fun _ => False) s.heap s.heap [] := va_S.rf
  have hl := lv_entry ([.ref r0, .int h0]) (n := 2) (Nat.le_of_ble_eq_true rfl)
  rw [lg_entry_eq]
  generalize (lg_sl ([.ref r0, .int h0]) ++ List.replicate (2 - (lg_sl ([.ref r0, .int h0])).length) Slot.unset).toArray = ls at hl ⊢
  have hl : lv_has ls 2 [(0, .ref r0), (1, .int h0)] := hl
  have hP : va_P D vwCl [(r0, .inr (3, [.ref e0, .ref z0, .ref o0, .ref t0, .int qn]))] s.heap := hP
  refine lv_iload_n hx hb dX3_hearthOf_0 rfl (lv_at hl 1 rfl) ?_
  refine lz_if_lt (tgt := 9) hx hb hhv (by omega) dX3_hearthOf_1 (by decide) (fun c_1 => ?_) (fun c_1 => ?_)
  · exfalso; omega
  · refine lv_iload_n hx hb dX3_hearthOf_4 rfl (lv_at hl 1 rfl) ?_
    refine lz_iconst hx hb dX3_hearthOf_5 (fun x_5 v_5 => ?_)
    refine lz_icmp_lt (tgt := 19) hx hb hhv v_5 ⟨by omega, by omega⟩ dX3_hearthOf_6 (by decide) (fun c_6 => ?_) (fun c_6 => ?_)
    · refine lv_iload_n hx hb dX3_hearthOf_19 rfl (lv_at hl 1 rfl) ?_
      refine lz_if_ne (tgt := 30) hx hb hhv (by omega) dX3_hearthOf_20 (by decide) (fun c_20 => ?_) (fun c_20 => ?_)
      · refine lv_aload_n hx hb dX3_hearthOf_30 rfl (lv_at hl 0 rfl) ?_
        refine va_get (D := D) (ci := 3) (v := .ref o0) (C := RX3) (T := TX3) (N := 5) hx hb hts iX3 hown hK hP 0 rfl rfl 2 (by decide) (hts _ qw101) (fun _ h9 => h9) rfl dX3_hearthOf_31 ?_
        exact W.aret (v := .ref o0) hx hb hr (Or.inl ⟨_, rfl⟩) (Or.inr ⟨_, rfl⟩) (fun t ht hW => ⟨⟨(), o0, rfl, trivial, rfl⟩, hS.F ht⟩) hS.2.2 dX3_hearthOf_34
      · exfalso; omega
    · exfalso; omega
set_option maxHeartbeats 4000000 in
set_option maxRecDepth 100000 in
theorem k_X3_hearthOf_x (l : Launch) (hl0 : l.stackTraces = false) (D : va_G) (cI cZ cJ cK : ClassId) (hz9 : Nat) (r0 : Nat) (h0 : Int32) (e0 : Nat) (z0 : Nat) (o0 : Nat) (t0 : Nat) (qn : Int32) (h : Int) (hhv : h0 = iI h) (hhr : -2147483648 ≤ h ∧ h < 2147483648) (hhb : ¬ (0 ≤ h ∧ h < 2)) : vx_Met l yX3_hearthOf (ws_ yX3_hearthOf cX3_hearthOf 2 (Option.some (.object "RadixHearth$Hearth"))) ({ frames := 6, cells := 1, slots := 6, locals := 82 }) (va_Pc [.ref r0, .int h0] (wPre D cI cZ cJ cK hz9 [(r0, .inr (3, [.ref e0, .ref z0, .ref o0, .ref t0, .int qn]))])) (va_Qr (fun (_ : Unit) => True) (fun _ r _ => (False)) (fun _ => False)) (vx_X (fun (_ : Unit) => True) (fun E _ _ => E = xI) (fun _ => False)) 1 6 (fun _ => False) := by
  refine vx_ofW (cc := cX3_hearthOf) (maxL := 2) (ret := (Option.some (.object "RadixHearth$Hearth"))) (by decide) rfl ?_
  intro p e s m args below meth c s₁ hBd hml hext hv
  obtain ⟨rfl, hsz, hP, hD, hK, hT, hZ⟩ := hv
  have hx := hBd.exec
  have hb := hBd.bytes
  have hr := hBd.returns
  have hts : ∀ w ∈ lw_G, w.before _ s = true := fun w h => atoms_spec (ws := (ws_ yX3_hearthOf cX3_hearthOf 2 (Option.some (.object "RadixHearth$Hearth")))) hBd.pre w (List.mem_cons_of_mem _ h)
  have hown : s.vm.findClass RX3 = some m.cls := findClass_of_methodNamed hBd.named
  have hlocks := hBd.notSynchronized
  subst hsz
  have hS : va_S (fun _ => False) s.heap s.heap [] := va_S.rf
  have hl := lv_entry ([.ref r0, .int h0]) (n := 2) (Nat.le_of_ble_eq_true rfl)
  rw [lg_entry_eq]
  generalize (lg_sl ([.ref r0, .int h0]) ++ List.replicate (2 - (lg_sl ([.ref r0, .int h0])).length) Slot.unset).toArray = ls at hl ⊢
  have hl : lv_has ls 2 [(0, .ref r0), (1, .int h0)] := hl
  have hP : va_P D vwCl [(r0, .inr (3, [.ref e0, .ref z0, .ref o0, .ref t0, .int qn]))] s.heap := hP
  refine lv_iload_n hx hb dX3_hearthOf_0 rfl (lv_at hl 1 rfl) ?_
  refine lz_if_lt (tgt := 9) hx hb hhv (by omega) dX3_hearthOf_1 (by decide) (fun c_1 => ?_) (fun c_1 => ?_)
  · exact lz_throw (text := "there is no such hearth") hx hb hl0 hown hts hT hZ hS (by rw [hml]; exact hl.1) (by decide +kernel) at_I (by decide +kernel) dX3_hearthOf_9 dX3_hearthOf_12 dX3_hearthOf_13 dX3_hearthOf_15 dX3_hearthOf_18 (fun x hx9 => (hext x hx9).elim) (Nat.le_of_ble_eq_true rfl) (Nat.le_of_ble_eq_true rfl) (Nat.le_of_ble_eq_true rfl) (Nat.le_of_ble_eq_true rfl) hlocks (fun t hv1 h1 h2 => ⟨(), trivial, rfl, va_F_grow hS h1 h2⟩) (fun z hz => (hS.2.2 z hz).elim) (by omega) (by omega)
  · refine lv_iload_n hx hb dX3_hearthOf_4 rfl (lv_at hl 1 rfl) ?_
    refine lz_iconst hx hb dX3_hearthOf_5 (fun x_5 v_5 => ?_)
    refine lz_icmp_lt (tgt := 19) hx hb hhv v_5 ⟨by omega, by omega⟩ dX3_hearthOf_6 (by decide) (fun c_6 => ?_) (fun c_6 => ?_)
    · exfalso; omega
    · exact lz_throw (text := "there is no such hearth") hx hb hl0 hown hts hT hZ hS (by rw [hml]; exact hl.1) (by decide +kernel) at_I (by decide +kernel) dX3_hearthOf_9 dX3_hearthOf_12 dX3_hearthOf_13 dX3_hearthOf_15 dX3_hearthOf_18 (fun x hx9 => (hext x hx9).elim) (Nat.le_of_ble_eq_true rfl) (Nat.le_of_ble_eq_true rfl) (Nat.le_of_ble_eq_true rfl) (Nat.le_of_ble_eq_true rfl) hlocks (fun t hv1 h1 h2 => ⟨(), trivial, rfl, va_F_grow hS h1 h2⟩) (fun z hz => (hS.2.2 z hz).elim) (by omega) (by omega)
set_option maxHeartbeats 4000000 in
set_option maxRecDepth 100000 in
theorem k_X3_refuseUnlit (l : Launch) (D : va_G) (cI cZ cJ cK : ClassId) (hz9 : Nat) (r0 : Nat) (x0 : Int32) (e0 : Nat) (z0 : Nat) (o0 : Nat) (t0 : Nat) (qn : Int32) (eh : Nat) (eo : Nat) (ev : Nat) (er : Nat) (el : Int32) (n x : Nat) (hn : el = iI ↑n) (hn4 : n ≤ 40) (hxv : x0 = iI ↑x) (hxn : x < n) : Met l yX3_refuseUnlit (ws_ yX3_refuseUnlit cX3_refuseUnlit 2 (Option.none : Option Jvm.ClassFile.FieldType)) ({ frames := 1, cells := 0, slots := 0, locals := 21 }) (va_Pc [.ref r0, .int x0] (wPre D cI cZ cJ cK hz9 [(r0, .inr (3, [.ref e0, .ref z0, .ref o0, .ref t0, .int qn])), (e0, .inr (0, [.ref eh, .ref eo, .ref ev, .ref er, .int el]))])) (va_Qv (fun (_ : Unit) => True) (fun _ _ => True) (fun _ => False)) 0 0 (fun _ => False) := by
  refine Met.ofW (cc := cX3_refuseUnlit) (maxL := 2) (ret := (Option.none : Option Jvm.ClassFile.FieldType)) (by decide) rfl ?_
  intro p e s m args below meth c s₁ hBd hml hv
  obtain ⟨rfl, hsz, hP, hD, hK, hT, hZ⟩ := hv
  have hx := hBd.exec
  have hb := hBd.bytes
  have hr := hBd.returns
  have hts : ∀ w ∈ lw_G, w.before _ s = true := fun w h => atoms_spec (ws := (ws_ yX3_refuseUnlit cX3_refuseUnlit 2 (Option.none : Option Jvm.ClassFile.FieldType))) hBd.pre w (List.mem_cons_of_mem _ h)
  have hown : s.vm.findClass RX3 = some m.cls := findClass_of_methodNamed hBd.named
  have hlocks := hBd.notSynchronized
  subst hsz
  have hS : va_S (fun _ => False) s.heap s.heap [] := va_S.rf
  have hl := lv_entry ([.ref r0, .int x0]) (n := 2) (Nat.le_of_ble_eq_true rfl)
  rw [lg_entry_eq]
  generalize (lg_sl ([.ref r0, .int x0]) ++ List.replicate (2 - (lg_sl ([.ref r0, .int x0])).length) Slot.unset).toArray = ls at hl ⊢
  have hl : lv_has ls 2 [(0, .ref r0), (1, .int x0)] := hl
  have hP : va_P D vwCl [(r0, .inr (3, [.ref e0, .ref z0, .ref o0, .ref t0, .int qn])), (e0, .inr (0, [.ref eh, .ref eo, .ref ev, .ref er, .int el]))] s.heap := hP
  refine lv_aload_n hx hb dX3_refuseUnlit_0 rfl (lv_at hl 0 rfl) ?_
  refine va_get (D := D) (ci := 3) (v := .ref e0) (C := RX3) (T := TX3) (N := 5) hx hb hts iX3 hown hK hP 0 rfl rfl 0 (by decide) (hts _ qw99) (fun _ h9 => h9) rfl dX3_refuseUnlit_1 ?_
  refine lv_iload_n hx hb dX3_refuseUnlit_4 rfl (lv_at hl 1 rfl) ?_
  refine cr_i (va_runV (As := [.int x0]) (rest := []) ⟨hx, hb, hml, hown, hts⟩ (k_X0_has l D cI cZ cJ cK _ e0 x0 eh eo ev er el n (↑x) (hn) (hn4) (hxv) (by omega)) (cwV 1 hts (gV qw377 qw240 qw241 qw11 qw242) rfl rfl rfl (by decide +kernel) ⟨Nat.le_of_ble_eq_true rfl, Nat.le_of_ble_eq_true rfl⟩) (pv (ci := 0) (r := (RX0, TX0, 5)) (q0 := 1) hP hD hK hT hZ hS [1] rfl rfl rfl rfl) rfl rfl hl.1 rfl (lv_room (Nat.le_of_ble_eq_true rfl)) dX3_refuseUnlit_5 ⟨Nat.le_of_ble_eq_true rfl, Nat.le_of_ble_eq_true rfl⟩) hS hP (fun x_5 H locs hw_5 hP hS => ?_)
  have hw_5 : (x_5 = iI (if (0 : Int) ≤ (↑x) ∧ (↑x) < (↑n : Int) then 1 else 0)) := hw_5
  have v_5 := hw_5
  refine lz_if_ne (tgt := 21) hx hb v_5 (by omega) dX3_refuseUnlit_8 (by decide) (fun c_8 => ?_) (fun c_8 => ?_)
  · exact W.vret hx hb hr (fun t ht hW => ⟨⟨(), rfl, trivial, trivial⟩, hS.F ht⟩) hS.2.2 dX3_refuseUnlit_21
  · exfalso; omega
set_option maxHeartbeats 4000000 in
set_option maxRecDepth 100000 in
theorem k_X3_refuseUnlit_x (l : Launch) (hl0 : l.stackTraces = false) (D : va_G) (cI cZ cJ cK : ClassId) (hz9 : Nat) (r0 : Nat) (x0 : Int32) (e0 : Nat) (z0 : Nat) (o0 : Nat) (t0 : Nat) (qn : Int32) (eh : Nat) (eo : Nat) (ev : Nat) (er : Nat) (el : Int32) (n : Nat) (x : Int) (hn : el = iI ↑n) (hn4 : n ≤ 40) (hxv : x0 = iI x) (hxr : -2147483648 ≤ x ∧ x < 2147483648) (hxb : ¬ (0 ≤ x ∧ x < ↑n)) : vx_Met l yX3_refuseUnlit (ws_ yX3_refuseUnlit cX3_refuseUnlit 2 (Option.none : Option Jvm.ClassFile.FieldType)) ({ frames := 6, cells := 1, slots := 6, locals := 82 }) (va_Pc [.ref r0, .int x0] (wPre D cI cZ cJ cK hz9 [(r0, .inr (3, [.ref e0, .ref z0, .ref o0, .ref t0, .int qn])), (e0, .inr (0, [.ref eh, .ref eo, .ref ev, .ref er, .int el]))])) (va_Qv (fun (_ : Unit) => (False)) (fun _ _ => True) (fun _ => False)) (vx_X (fun (_ : Unit) => True) (fun E _ _ => E = xI) (fun _ => False)) 1 6 (fun _ => False) := by
  refine vx_ofW (cc := cX3_refuseUnlit) (maxL := 2) (ret := (Option.none : Option Jvm.ClassFile.FieldType)) (by decide) rfl ?_
  intro p e s m args below meth c s₁ hBd hml hext hv
  obtain ⟨rfl, hsz, hP, hD, hK, hT, hZ⟩ := hv
  have hx := hBd.exec
  have hb := hBd.bytes
  have hr := hBd.returns
  have hts : ∀ w ∈ lw_G, w.before _ s = true := fun w h => atoms_spec (ws := (ws_ yX3_refuseUnlit cX3_refuseUnlit 2 (Option.none : Option Jvm.ClassFile.FieldType))) hBd.pre w (List.mem_cons_of_mem _ h)
  have hown : s.vm.findClass RX3 = some m.cls := findClass_of_methodNamed hBd.named
  have hlocks := hBd.notSynchronized
  subst hsz
  have hS : va_S (fun _ => False) s.heap s.heap [] := va_S.rf
  have hl := lv_entry ([.ref r0, .int x0]) (n := 2) (Nat.le_of_ble_eq_true rfl)
  rw [lg_entry_eq]
  generalize (lg_sl ([.ref r0, .int x0]) ++ List.replicate (2 - (lg_sl ([.ref r0, .int x0])).length) Slot.unset).toArray = ls at hl ⊢
  have hl : lv_has ls 2 [(0, .ref r0), (1, .int x0)] := hl
  have hP : va_P D vwCl [(r0, .inr (3, [.ref e0, .ref z0, .ref o0, .ref t0, .int qn])), (e0, .inr (0, [.ref eh, .ref eo, .ref ev, .ref er, .int el]))] s.heap := hP
  refine lv_aload_n hx hb dX3_refuseUnlit_0 rfl (lv_at hl 0 rfl) ?_
  refine va_get (D := D) (ci := 3) (v := .ref e0) (C := RX3) (T := TX3) (N := 5) hx hb hts iX3 hown hK hP 0 rfl rfl 0 (by decide) (hts _ qw99) (fun _ h9 => h9) rfl dX3_refuseUnlit_1 ?_
  refine lv_iload_n hx hb dX3_refuseUnlit_4 rfl (lv_at hl 1 rfl) ?_
  refine cr_i (va_runV (As := [.int x0]) (rest := []) ⟨hx, hb, hml, hown, hts⟩ (k_X0_has l D cI cZ cJ cK _ e0 x0 eh eo ev er el n x (hn) (hn4) (hxv) (hxr)) (cwV 1 hts (gV qw377 qw240 qw241 qw11 qw242) rfl rfl rfl (by decide +kernel) ⟨Nat.le_of_ble_eq_true rfl, Nat.le_of_ble_eq_true rfl⟩) (pv (ci := 0) (r := (RX0, TX0, 5)) (q0 := 1) hP hD hK hT hZ hS [1] rfl rfl rfl rfl) rfl rfl hl.1 rfl (lv_room (Nat.le_of_ble_eq_true rfl)) dX3_refuseUnlit_5 ⟨Nat.le_of_ble_eq_true rfl, Nat.le_of_ble_eq_true rfl⟩) hS hP (fun x_5 H locs hw_5 hP hS => ?_)
  have hw_5 : (x_5 = iI (if (0 : Int) ≤ x ∧ x < (↑n : Int) then 1 else 0)) := hw_5
  have v_5 := hw_5
  refine lz_if_ne (tgt := 21) hx hb v_5 (by omega) dX3_refuseUnlit_8 (by decide) (fun c_8 => ?_) (fun c_8 => ?_)
  · exfalso; omega
  · exact lz_throw (text := "there is no such ember") hx hb hl0 hown hts hT hZ hS (by rw [hml]; exact hl.1) (by decide +kernel) at_I (by decide +kernel) dX3_refuseUnlit_11 dX3_refuseUnlit_14 dX3_refuseUnlit_15 dX3_refuseUnlit_17 dX3_refuseUnlit_20 (fun x hx9 => (hext x hx9).elim) (Nat.le_of_ble_eq_true rfl) (Nat.le_of_ble_eq_true rfl) (Nat.le_of_ble_eq_true rfl) (Nat.le_of_ble_eq_true rfl) hlocks (fun t hv1 h1 h2 => ⟨(), trivial, rfl, va_F_grow hS h1 h2⟩) (fun z hz => (hS.2.2 z hz).elim) (by omega) (by omega)
set_option maxHeartbeats 4000000 in
set_option maxRecDepth 100000 in
theorem k_X3_refuseBucket (l : Launch) (D : va_G) (cI cZ cJ cK : ClassId) (hz9 : Nat) (b0 : Int32) (b : Nat) (hbv : b0 = iI ↑b) (hb : b < 11) : Met l yX3_refuseBucket (ws_ yX3_refuseBucket cX3_refuseBucket 1 (Option.none : Option Jvm.ClassFile.FieldType)) ({ frames := 0, cells := 0, slots := 0, locals := 0 }) (va_Pc [.int b0] (wPre D cI cZ cJ cK hz9 [])) (va_Qv (fun (_ : Unit) => True) (fun _ _ => True) (fun _ => False)) 0 0 (fun _ => False) := by
  refine Met.ofW (cc := cX3_refuseBucket) (maxL := 1) (ret := (Option.none : Option Jvm.ClassFile.FieldType)) (by decide) rfl ?_
  intro p e s m args below meth c s₁ hBd hml hv
  obtain ⟨rfl, hsz, hP, hD, hK, hT, hZ⟩ := hv
  have hx := hBd.exec
  have hb := hBd.bytes
  have hr := hBd.returns
  have hts : ∀ w ∈ lw_G, w.before _ s = true := fun w h => atoms_spec (ws := (ws_ yX3_refuseBucket cX3_refuseBucket 1 (Option.none : Option Jvm.ClassFile.FieldType))) hBd.pre w (List.mem_cons_of_mem _ h)
  have hown : s.vm.findClass RX3 = some m.cls := findClass_of_methodNamed hBd.named
  have hlocks := hBd.notSynchronized
  subst hsz
  have hS : va_S (fun _ => False) s.heap s.heap [] := va_S.rf
  have hl := lv_entry ([.int b0]) (n := 1) (Nat.le_of_ble_eq_true rfl)
  rw [lg_entry_eq]
  generalize (lg_sl ([.int b0]) ++ List.replicate (1 - (lg_sl ([.int b0])).length) Slot.unset).toArray = ls at hl ⊢
  have hl : lv_has ls 1 [(0, .int b0)] := hl
  have hP : va_P D vwCl [] s.heap := hP
  refine lv_iload_n hx hb dX3_refuseBucket_0 rfl (lv_at hl 0 rfl) ?_
  refine lz_if_lt (tgt := 10) hx hb hbv (by omega) dX3_refuseBucket_1 (by decide) (fun c_1 => ?_) (fun c_1 => ?_)
  · exfalso; omega
  · refine lv_iload_n hx hb dX3_refuseBucket_4 rfl (lv_at hl 0 rfl) ?_
    refine lz_bipush hx hb (by decide) dX3_refuseBucket_5 (fun x_5 v_5 => ?_)
    refine lz_icmp_lt (tgt := 20) hx hb hbv v_5 ⟨by omega, by omega⟩ dX3_refuseBucket_7 (by decide) (fun c_7 => ?_) (fun c_7 => ?_)
    · exact W.vret hx hb hr (fun t ht hW => ⟨⟨(), rfl, trivial, trivial⟩, hS.F ht⟩) hS.2.2 dX3_refuseBucket_20
    · exfalso; omega
set_option maxHeartbeats 4000000 in
set_option maxRecDepth 100000 in
theorem k_X3_refuseBucket_x (l : Launch) (hl0 : l.stackTraces = false) (D : va_G) (cI cZ cJ cK : ClassId) (hz9 : Nat) (b0 : Int32) (b : Int) (hbv : b0 = iI b) (hbr : -2147483648 ≤ b ∧ b < 2147483648) (hbb : ¬ (0 ≤ b ∧ b < 11)) : vx_Met l yX3_refuseBucket (ws_ yX3_refuseBucket cX3_refuseBucket 1 (Option.none : Option Jvm.ClassFile.FieldType)) ({ frames := 6, cells := 1, slots := 6, locals := 82 }) (va_Pc [.int b0] (wPre D cI cZ cJ cK hz9 [])) (va_Qv (fun (_ : Unit) => (False)) (fun _ _ => True) (fun _ => False)) (vx_X (fun (_ : Unit) => True) (fun E _ _ => E = xI) (fun _ => False)) 1 6 (fun _ => False) := by
  refine vx_ofW (cc := cX3_refuseBucket) (maxL := 1) (ret := (Option.none : Option Jvm.ClassFile.FieldType)) (by decide) rfl ?_
  intro p e s m args below meth c s₁ hBd hml hext hv
  obtain ⟨rfl, hsz, hP, hD, hK, hT, hZ⟩ := hv
  have hx := hBd.exec
  have hb := hBd.bytes
  have hr := hBd.returns
  have hts : ∀ w ∈ lw_G, w.before _ s = true := fun w h => atoms_spec (ws := (ws_ yX3_refuseBucket cX3_refuseBucket 1 (Option.none : Option Jvm.ClassFile.FieldType))) hBd.pre w (List.mem_cons_of_mem _ h)
  have hown : s.vm.findClass RX3 = some m.cls := findClass_of_methodNamed hBd.named
  have hlocks := hBd.notSynchronized
  subst hsz
  have hS : va_S (fun _ => False) s.heap s.heap [] := va_S.rf
  have hl := lv_entry ([.int b0]) (n := 1) (Nat.le_of_ble_eq_true rfl)
  rw [lg_entry_eq]
  generalize (lg_sl ([.int b0]) ++ List.replicate (1 - (lg_sl ([.int b0])).length) Slot.unset).toArray = ls at hl ⊢
  have hl : lv_has ls 1 [(0, .int b0)] := hl
  have hP : va_P D vwCl [] s.heap := hP
  refine lv_iload_n hx hb dX3_refuseBucket_0 rfl (lv_at hl 0 rfl) ?_
  refine lz_if_lt (tgt := 10) hx hb hbv (by omega) dX3_refuseBucket_1 (by decide) (fun c_1 => ?_) (fun c_1 => ?_)
  · exact lz_throw (text := "there is no such bucket") hx hb hl0 hown hts hT hZ hS (by rw [hml]; exact hl.1) (by decide +kernel) at_I (by decide +kernel) dX3_refuseBucket_10 dX3_refuseBucket_13 dX3_refuseBucket_14 dX3_refuseBucket_16 dX3_refuseBucket_19 (fun x hx9 => (hext x hx9).elim) (Nat.le_of_ble_eq_true rfl) (Nat.le_of_ble_eq_true rfl) (Nat.le_of_ble_eq_true rfl) (Nat.le_of_ble_eq_true rfl) hlocks (fun t hv1 h1 h2 => ⟨(), trivial, rfl, va_F_grow hS h1 h2⟩) (fun z hz => (hS.2.2 z hz).elim) (by omega) (by omega)
  · refine lv_iload_n hx hb dX3_refuseBucket_4 rfl (lv_at hl 0 rfl) ?_
    refine lz_bipush hx hb (by decide) dX3_refuseBucket_5 (fun x_5 v_5 => ?_)
    refine lz_icmp_lt (tgt := 20) hx hb hbv v_5 ⟨by omega, by omega⟩ dX3_refuseBucket_7 (by decide) (fun c_7 => ?_) (fun c_7 => ?_)
    · exfalso; omega
    · exact lz_throw (text := "there is no such bucket") hx hb hl0 hown hts hT hZ hS (by rw [hml]; exact hl.1) (by decide +kernel) at_I (by decide +kernel) dX3_refuseBucket_10 dX3_refuseBucket_13 dX3_refuseBucket_14 dX3_refuseBucket_16 dX3_refuseBucket_19 (fun x hx9 => (hext x hx9).elim) (Nat.le_of_ble_eq_true rfl) (Nat.le_of_ble_eq_true rfl) (Nat.le_of_ble_eq_true rfl) (Nat.le_of_ble_eq_true rfl) hlocks (fun t hv1 h1 h2 => ⟨(), trivial, rfl, va_F_grow hS h1 h2⟩) (fun z hz => (hS.2.2 z hz).elim) (by omega) (by omega)
set_option maxHeartbeats 4000000 in
set_option maxRecDepth 100000 in
theorem k_X3_homeOfBurning_0 (l : Launch) (D : va_G) (cI cZ cJ cK : ClassId) (hz9 : Nat) (r0 : Nat) (x0 : Int32) (e0 : Nat) (z0 : Nat) (o0 : Nat) (t0 : Nat) (qn : Int32) (eh : Nat) (eo : Nat) (ev : Nat) (er : Nat) (el : Int32) (fo : Nat → Int32) (n x : Nat) (hn : el = iI ↑n) (hn4 : n ≤ 40) (hxv : x0 = iI ↑x) (hxn : x < n) (hfo : fo x = iI (0)) : Met l yX3_homeOfBurning (ws_ yX3_homeOfBurning cX3_homeOfBurning 3 (Option.some (.object "RadixHearth$Hearth"))) ({ frames := 2, cells := 0, slots := 0, locals := 42 }) (va_Pc [.ref r0, .int x0] (wPre D cI cZ cJ cK hz9 [(r0, .inr (3, [.ref e0, .ref z0, .ref o0, .ref t0, .int qn])), (e0, .inr (0, [.ref eh, .ref eo, .ref ev, .ref er, .int el])), (eo, .inl (cI, 40, .inl fo))])) (va_Qr (fun (_ : Unit) => True) (fun _ r _ => (r = z0)) (fun _ => False)) 0 0 (fun _ => False) := by
  refine Met.ofW (cc := cX3_homeOfBurning) (maxL := 3) (ret := (Option.some (.object "RadixHearth$Hearth"))) (by decide) rfl ?_
  intro p e s m args below meth c s₁ hBd hml hv
  obtain ⟨rfl, hsz, hP, hD, hK, hT, hZ⟩ := hv
  have hx := hBd.exec
  have hb := hBd.bytes
  have hr := hBd.returns
  have hts : ∀ w ∈ lw_G, w.before _ s = true := fun w h => atoms_spec (ws := (ws_ yX3_homeOfBurning cX3_homeOfBurning 3 (Option.some (.object "RadixHearth$Hearth")))) hBd.pre w (List.mem_cons_of_mem _ h)
  have hown : s.vm.findClass RX3 = some m.cls := findClass_of_methodNamed hBd.named
  have hlocks := hBd.notSynchronized
  subst hsz
  have hS : va_S (fun _ => False) s.heap s.heap [] := va_S.rf
  have hl := lv_entry ([.ref r0, .int x0]) (n := 3) (Nat.le_of_ble_eq_true rfl)
  rw [lg_entry_eq]
  generalize (lg_sl ([.ref r0, .int x0]) ++ List.replicate (3 - (lg_sl ([.ref r0, .int x0])).length) Slot.unset).toArray = ls at hl ⊢
  have hl : lv_has ls 3 [(0, .ref r0), (1, .int x0)] := hl
  have hP : va_P D vwCl [(r0, .inr (3, [.ref e0, .ref z0, .ref o0, .ref t0, .int qn])), (e0, .inr (0, [.ref eh, .ref eo, .ref ev, .ref er, .int el])), (eo, .inl (cI, 40, .inl fo))] s.heap := hP
  refine lv_aload_n hx hb dX3_homeOfBurning_0 rfl (lv_at hl 0 rfl) ?_
  refine lv_iload_n hx hb dX3_homeOfBurning_1 rfl (lv_at hl 1 rfl) ?_
  refine cr_v (va_runV (As := [.int x0]) (rest := []) ⟨hx, hb, hml, hown, hts⟩ (k_X3_refuseUnlit l D cI cZ cJ cK _ r0 x0 e0 z0 o0 t0 qn eh eo ev er el n x (hn) (hn4) (hxv.trans (congrArg iI (by omega))) (hxn)) (cwV 1 hts (gV qw373 qw375 qw5 qw10 qw376) rfl rfl rfl (by decide +kernel) ⟨Nat.le_of_ble_eq_true rfl, Nat.le_of_ble_eq_true rfl⟩) (pv (ci := 3) (r := (RX3, TX3, 5)) (q0 := 0) hP hD hK hT hZ hS [0, 1] rfl rfl rfl rfl) rfl rfl hl.1 rfl (lv_room (Nat.le_of_ble_eq_true rfl)) dX3_homeOfBurning_2 ⟨Nat.le_of_ble_eq_true rfl, Nat.le_of_ble_eq_true rfl⟩) hS hP (fun H locs hw_2 hP hS => ?_)
  refine lv_aload_n hx hb dX3_homeOfBurning_5 rfl (lv_at hl 0 rfl) ?_
  refine va_get (D := D) (ci := 3) (v := .ref e0) (C := RX3) (T := TX3) (N := 5) hx hb hts iX3 hown hK hP 0 rfl rfl 0 (by decide) (hts _ qw99) (fun _ h9 => h9) rfl dX3_homeOfBurning_6 ?_
  refine lv_iload_n hx hb dX3_homeOfBurning_9 rfl (lv_at hl 1 rfl) ?_
  refine cr_i (va_runV (As := [.int x0]) (rest := []) ⟨hx, hb, hml, hown, hts⟩ (k_X0_homeOf l D cI cZ cJ cK _ e0 x0 eh eo ev er el fo n x (hn) (hn4) (hxv.trans (congrArg iI (by omega))) (hxn)) (cwV 1 hts (gV qw380 qw381 qw382 qw11 qw383) rfl rfl rfl (by decide +kernel) ⟨Nat.le_of_ble_eq_true rfl, Nat.le_of_ble_eq_true rfl⟩) (pv (ci := 0) (r := (RX0, TX0, 5)) (q0 := 1) hP hD hK hT hZ hS [1, 2] rfl rfl rfl rfl) rfl rfl hl.1 rfl (lv_room (Nat.le_of_ble_eq_true rfl)) dX3_homeOfBurning_10 ⟨Nat.le_of_ble_eq_true rfl, Nat.le_of_ble_eq_true rfl⟩) hS hP (fun x_10 H locs hw_10 hP hS => ?_)
  have hw_10 : (x_10 = fo x) := hw_10
  have v_10 := hw_10
  refine lv_istore_n (lv' := [(2, .int x_10), (0, .ref r0), (1, .int x0)]) hx hb dX3_homeOfBurning_13 rfl hl (by decide) rfl (fun ls hl => ?_)
  refine lv_iload_n hx hb dX3_homeOfBurning_14 rfl (lv_at hl 0 rfl) ?_
  refine lz_iconst hx hb dX3_homeOfBurning_15 (fun x_15 v_15 => ?_)
  refine lz_icmp_ne (tgt := 29) hx hb (v_10.trans hfo) v_15 ⟨by omega, by omega⟩ dX3_homeOfBurning_16 (by decide) (fun c_16 => ?_) (fun c_16 => ?_)
  · refine lv_aload_n hx hb dX3_homeOfBurning_29 rfl (lv_at hl 1 rfl) ?_
    refine lv_iload_n hx hb dX3_homeOfBurning_30 rfl (lv_at hl 0 rfl) ?_
    refine cr_r (va_runV (As := [.int x_10]) (rest := []) ⟨hx, hb, hml, hown, hts⟩ (k_X3_hearthOf_0 l D cI cZ cJ cK _ r0 x_10 e0 z0 o0 t0 qn ((v_10.trans hfo).trans (congrArg iI (by omega)))) (cwV 1 hts (gV qw119 qw121 qw0 qw10 qw122) rfl rfl rfl (by decide +kernel) ⟨Nat.le_of_ble_eq_true rfl, Nat.le_of_ble_eq_true rfl⟩) (pv (ci := 3) (r := (RX3, TX3, 5)) (q0 := 0) hP hD hK hT hZ hS [0] rfl rfl rfl rfl) rfl rfl hl.1 rfl (lv_room (Nat.le_of_ble_eq_true rfl)) dX3_homeOfBurning_31 ⟨Nat.le_of_ble_eq_true rfl, Nat.le_of_ble_eq_true rfl⟩) hS hP (fun x_31 H locs hw_31 hP hS => ?_)
    have hw_31 : (x_31 = z0) := hw_31
    have v_31 := hw_31
    have v_31 := v_31.symm
    subst v_31
    exact W.aret (v := .ref z0) hx hb hr (Or.inl ⟨_, rfl⟩) (Or.inr ⟨_, rfl⟩) (fun t ht hW => ⟨⟨(), z0, rfl, trivial, v_31⟩, hS.F ht⟩) hS.2.2 dX3_homeOfBurning_34
  · exfalso; omega
set_option maxHeartbeats 4000000 in
set_option maxRecDepth 100000 in
theorem k_X3_homeOfBurning_1 (l : Launch) (D : va_G) (cI cZ cJ cK : ClassId) (hz9 : Nat) (r0 : Nat) (x0 : Int32) (e0 : Nat) (z0 : Nat) (o0 : Nat) (t0 : Nat) (qn : Int32) (eh : Nat) (eo : Nat) (ev : Nat) (er : Nat) (el : Int32) (fo : Nat → Int32) (n x : Nat) (hn : el = iI ↑n) (hn4 : n ≤ 40) (hxv : x0 = iI ↑x) (hxn : x < n) (hfo : fo x = iI (1)) : Met l yX3_homeOfBurning (ws_ yX3_homeOfBurning cX3_homeOfBurning 3 (Option.some (.object "RadixHearth$Hearth"))) ({ frames := 2, cells := 0, slots := 0, locals := 42 }) (va_Pc [.ref r0, .int x0] (wPre D cI cZ cJ cK hz9 [(r0, .inr (3, [.ref e0, .ref z0, .ref o0, .ref t0, .int qn])), (e0, .inr (0, [.ref eh, .ref eo, .ref ev, .ref er, .int el])), (eo, .inl (cI, 40, .inl fo))])) (va_Qr (fun (_ : Unit) => True) (fun _ r _ => (r = o0)) (fun _ => False)) 0 0 (fun _ => False) := by
  refine Met.ofW (cc := cX3_homeOfBurning) (maxL := 3) (ret := (Option.some (.object "RadixHearth$Hearth"))) (by decide) rfl ?_
  intro p e s m args below meth c s₁ hBd hml hv
  obtain ⟨rfl, hsz, hP, hD, hK, hT, hZ⟩ := hv
  have hx := hBd.exec
  have hb := hBd.bytes
  have hr := hBd.returns
  have hts : ∀ w ∈ lw_G, w.before _ s = true := fun w h => atoms_spec (ws := (ws_ yX3_homeOfBurning cX3_homeOfBurning 3 (Option.some (.object "RadixHearth$Hearth")))) hBd.pre w (List.mem_cons_of_mem _ h)
  have hown : s.vm.findClass RX3 = some m.cls := findClass_of_methodNamed hBd.named
  have hlocks := hBd.notSynchronized
  subst hsz
  have hS : va_S (fun _ => False) s.heap s.heap [] := va_S.rf
  have hl := lv_entry ([.ref r0, .int x0]) (n := 3) (Nat.le_of_ble_eq_true rfl)
  rw [lg_entry_eq]
  generalize (lg_sl ([.ref r0, .int x0]) ++ List.replicate (3 - (lg_sl ([.ref r0, .int x0])).length) Slot.unset).toArray = ls at hl ⊢
  have hl : lv_has ls 3 [(0, .ref r0), (1, .int x0)] := hl
  have hP : va_P D vwCl [(r0, .inr (3, [.ref e0, .ref z0, .ref o0, .ref t0, .int qn])), (e0, .inr (0, [.ref eh, .ref eo, .ref ev, .ref er, .int el])), (eo, .inl (cI, 40, .inl fo))] s.heap := hP
  refine lv_aload_n hx hb dX3_homeOfBurning_0 rfl (lv_at hl 0 rfl) ?_
  refine lv_iload_n hx hb dX3_homeOfBurning_1 rfl (lv_at hl 1 rfl) ?_
  refine cr_v (va_runV (As := [.int x0]) (rest := []) ⟨hx, hb, hml, hown, hts⟩ (k_X3_refuseUnlit l D cI cZ cJ cK _ r0 x0 e0 z0 o0 t0 qn eh eo ev er el n x (hn) (hn4) (hxv.trans (congrArg iI (by omega))) (hxn)) (cwV 1 hts (gV qw373 qw375 qw5 qw10 qw376) rfl rfl rfl (by decide +kernel) ⟨Nat.le_of_ble_eq_true rfl, Nat.le_of_ble_eq_true rfl⟩) (pv (ci := 3) (r := (RX3, TX3, 5)) (q0 := 0) hP hD hK hT hZ hS [0, 1] rfl rfl rfl rfl) rfl rfl hl.1 rfl (lv_room (Nat.le_of_ble_eq_true rfl)) dX3_homeOfBurning_2 ⟨Nat.le_of_ble_eq_true rfl, Nat.le_of_ble_eq_true rfl⟩) hS hP (fun H locs hw_2 hP hS => ?_)
  refine lv_aload_n hx hb dX3_homeOfBurning_5 rfl (lv_at hl 0 rfl) ?_
  refine va_get (D := D) (ci := 3) (v := .ref e0) (C := RX3) (T := TX3) (N := 5) hx hb hts iX3 hown hK hP 0 rfl rfl 0 (by decide) (hts _ qw99) (fun _ h9 => h9) rfl dX3_homeOfBurning_6 ?_
  refine lv_iload_n hx hb dX3_homeOfBurning_9 rfl (lv_at hl 1 rfl) ?_
  refine cr_i (va_runV (As := [.int x0]) (rest := []) ⟨hx, hb, hml, hown, hts⟩ (k_X0_homeOf l D cI cZ cJ cK _ e0 x0 eh eo ev er el fo n x (hn) (hn4) (hxv.trans (congrArg iI (by omega))) (hxn)) (cwV 1 hts (gV qw380 qw381 qw382 qw11 qw383) rfl rfl rfl (by decide +kernel) ⟨Nat.le_of_ble_eq_true rfl, Nat.le_of_ble_eq_true rfl⟩) (pv (ci := 0) (r := (RX0, TX0, 5)) (q0 := 1) hP hD hK hT hZ hS [1, 2] rfl rfl rfl rfl) rfl rfl hl.1 rfl (lv_room (Nat.le_of_ble_eq_true rfl)) dX3_homeOfBurning_10 ⟨Nat.le_of_ble_eq_true rfl, Nat.le_of_ble_eq_true rfl⟩) hS hP (fun x_10 H locs hw_10 hP hS => ?_)
  have hw_10 : (x_10 = fo x) := hw_10
  have v_10 := hw_10
  refine lv_istore_n (lv' := [(2, .int x_10), (0, .ref r0), (1, .int x0)]) hx hb dX3_homeOfBurning_13 rfl hl (by decide) rfl (fun ls hl => ?_)
  refine lv_iload_n hx hb dX3_homeOfBurning_14 rfl (lv_at hl 0 rfl) ?_
  refine lz_iconst hx hb dX3_homeOfBurning_15 (fun x_15 v_15 => ?_)
  refine lz_icmp_ne (tgt := 29) hx hb (v_10.trans hfo) v_15 ⟨by omega, by omega⟩ dX3_homeOfBurning_16 (by decide) (fun c_16 => ?_) (fun c_16 => ?_)
  · refine lv_aload_n hx hb dX3_homeOfBurning_29 rfl (lv_at hl 1 rfl) ?_
    refine lv_iload_n hx hb dX3_homeOfBurning_30 rfl (lv_at hl 0 rfl) ?_
    refine cr_r (va_runV (As := [.int x_10]) (rest := []) ⟨hx, hb, hml, hown, hts⟩ (k_X3_hearthOf_1 l D cI cZ cJ cK _ r0 x_10 e0 z0 o0 t0 qn ((v_10.trans hfo).trans (congrArg iI (by omega)))) (cwV 1 hts (gV qw119 qw121 qw0 qw10 qw122) rfl rfl rfl (by decide +kernel) ⟨Nat.le_of_ble_eq_true rfl, Nat.le_of_ble_eq_true rfl⟩) (pv (ci := 3) (r := (RX3, TX3, 5)) (q0 := 0) hP hD hK hT hZ hS [0] rfl rfl rfl rfl) rfl rfl hl.1 rfl (lv_room (Nat.le_of_ble_eq_true rfl)) dX3_homeOfBurning_31 ⟨Nat.le_of_ble_eq_true rfl, Nat.le_of_ble_eq_true rfl⟩) hS hP (fun x_31 H locs hw_31 hP hS => ?_)
    have hw_31 : (x_31 = o0) := hw_31
    have v_31 := hw_31
    have v_31 := v_31.symm
    subst v_31
    exact W.aret (v := .ref o0) hx hb hr (Or.inl ⟨_, rfl⟩) (Or.inr ⟨_, rfl⟩) (fun t ht hW => ⟨⟨(), o0, rfl, trivial, v_31⟩, hS.F ht⟩) hS.2.2 dX3_homeOfBurning_34
  · exfalso; omega
set_option maxHeartbeats 4000000 in
set_option maxRecDepth 100000 in
theorem k_X3_homeOfBurning_g (l : Launch) (hl0 : l.stackTraces = false) (D : va_G) (cI cZ cJ cK : ClassId) (hz9 : Nat) (r0 : Nat) (x0 : Int32) (e0 : Nat) (z0 : Nat) (o0 : Nat) (t0 : Nat) (qn : Int32) (eh : Nat) (eo : Nat) (ev : Nat) (er : Nat) (el : Int32) (fo : Nat → Int32) (n x : Nat) (hn : el = iI ↑n) (hn4 : n ≤ 40) (hxv : x0 = iI ↑x) (hxn : x < n) (hfo : fo x = iI (-1)) : vx_Met l yX3_homeOfBurning (ws_ yX3_homeOfBurning cX3_homeOfBurning 3 (Option.some (.object "RadixHearth$Hearth"))) ({ frames := 6, cells := 1, slots := 6, locals := 82 }) (va_Pc [.ref r0, .int x0] (wPre D cI cZ cJ cK hz9 [(r0, .inr (3, [.ref e0, .ref z0, .ref o0, .ref t0, .int qn])), (e0, .inr (0, [.ref eh, .ref eo, .ref ev, .ref er, .int el])), (eo, .inl (cI, 40, .inl fo))])) (va_Qr (fun (_ : Unit) => True) (fun _ r _ => (False)) (fun _ => False)) (vx_X (fun (_ : Unit) => True) (fun E _ _ => E = xS) (fun _ => False)) 1 6 (fun _ => False) := by
  refine vx_ofW (cc := cX3_homeOfBurning) (maxL := 3) (ret := (Option.some (.object "RadixHearth$Hearth"))) (by decide) rfl ?_
  intro p e s m args below meth c s₁ hBd hml hext hv
  obtain ⟨rfl, hsz, hP, hD, hK, hT, hZ⟩ := hv
  have hx := hBd.exec
  have hb := hBd.bytes
  have hr := hBd.returns
  have hts : ∀ w ∈ lw_G, w.before _ s = true := fun w h => atoms_spec (ws := (ws_ yX3_homeOfBurning cX3_homeOfBurning 3 (Option.some (.object "RadixHearth$Hearth")))) hBd.pre w (List.mem_cons_of_mem _ h)
  have hown : s.vm.findClass RX3 = some m.cls := findClass_of_methodNamed hBd.named
  have hlocks := hBd.notSynchronized
  subst hsz
  have hS : va_S (fun _ => False) s.heap s.heap [] := va_S.rf
  have hl := lv_entry ([.ref r0, .int x0]) (n := 3) (Nat.le_of_ble_eq_true rfl)
  rw [lg_entry_eq]
  generalize (lg_sl ([.ref r0, .int x0]) ++ List.replicate (3 - (lg_sl ([.ref r0, .int x0])).length) Slot.unset).toArray = ls at hl ⊢
  have hl : lv_has ls 3 [(0, .ref r0), (1, .int x0)] := hl
  have hP : va_P D vwCl [(r0, .inr (3, [.ref e0, .ref z0, .ref o0, .ref t0, .int qn])), (e0, .inr (0, [.ref eh, .ref eo, .ref ev, .ref er, .int el])), (eo, .inl (cI, 40, .inl fo))] s.heap := hP
  refine lv_aload_n hx hb dX3_homeOfBurning_0 rfl (lv_at hl 0 rfl) ?_
  refine lv_iload_n hx hb dX3_homeOfBurning_1 rfl (lv_at hl 1 rfl) ?_
  refine cr_v (va_runV (As := [.int x0]) (rest := []) ⟨hx, hb, hml, hown, hts⟩ (k_X3_refuseUnlit l D cI cZ cJ cK _ r0 x0 e0 z0 o0 t0 qn eh eo ev er el n x (hn) (hn4) (hxv.trans (congrArg iI (by omega))) (hxn)) (cwV 1 hts (gV qw373 qw375 qw5 qw10 qw376) rfl rfl rfl (by decide +kernel) ⟨Nat.le_of_ble_eq_true rfl, Nat.le_of_ble_eq_true rfl⟩) (pv (ci := 3) (r := (RX3, TX3, 5)) (q0 := 0) hP hD hK hT hZ hS [0, 1] rfl rfl rfl rfl) rfl rfl hl.1 rfl (lv_room (Nat.le_of_ble_eq_true rfl)) dX3_homeOfBurning_2 ⟨Nat.le_of_ble_eq_true rfl, Nat.le_of_ble_eq_true rfl⟩) hS hP (fun H locs hw_2 hP hS => ?_)
  refine lv_aload_n hx hb dX3_homeOfBurning_5 rfl (lv_at hl 0 rfl) ?_
  refine va_get (D := D) (ci := 3) (v := .ref e0) (C := RX3) (T := TX3) (N := 5) hx hb hts iX3 hown hK hP 0 rfl rfl 0 (by decide) (hts _ qw99) (fun _ h9 => h9) rfl dX3_homeOfBurning_6 ?_
  refine lv_iload_n hx hb dX3_homeOfBurning_9 rfl (lv_at hl 1 rfl) ?_
  refine cr_i (va_runV (As := [.int x0]) (rest := []) ⟨hx, hb, hml, hown, hts⟩ (k_X0_homeOf l D cI cZ cJ cK _ e0 x0 eh eo ev er el fo n x (hn) (hn4) (hxv.trans (congrArg iI (by omega))) (hxn)) (cwV 1 hts (gV qw380 qw381 qw382 qw11 qw383) rfl rfl rfl (by decide +kernel) ⟨Nat.le_of_ble_eq_true rfl, Nat.le_of_ble_eq_true rfl⟩) (pv (ci := 0) (r := (RX0, TX0, 5)) (q0 := 1) hP hD hK hT hZ hS [1, 2] rfl rfl rfl rfl) rfl rfl hl.1 rfl (lv_room (Nat.le_of_ble_eq_true rfl)) dX3_homeOfBurning_10 ⟨Nat.le_of_ble_eq_true rfl, Nat.le_of_ble_eq_true rfl⟩) hS hP (fun x_10 H locs hw_10 hP hS => ?_)
  have hw_10 : (x_10 = fo x) := hw_10
  have v_10 := hw_10
  refine lv_istore_n (lv' := [(2, .int x_10), (0, .ref r0), (1, .int x0)]) hx hb dX3_homeOfBurning_13 rfl hl (by decide) rfl (fun ls hl => ?_)
  refine lv_iload_n hx hb dX3_homeOfBurning_14 rfl (lv_at hl 0 rfl) ?_
  refine lz_iconst hx hb dX3_homeOfBurning_15 (fun x_15 v_15 => ?_)
  refine lz_icmp_ne (tgt := 29) hx hb (v_10.trans hfo) v_15 ⟨by omega, by omega⟩ dX3_homeOfBurning_16 (by decide) (fun c_16 => ?_) (fun c_16 => ?_)
  · exfalso; omega
  · exact lz_throw (text := "the ember has gone out") hx hb hl0 hown hts hT hZ hS (by rw [hml]; exact hl.1) (by decide +kernel) at_S (by decide +kernel) dX3_homeOfBurning_19 dX3_homeOfBurning_22 dX3_homeOfBurning_23 dX3_homeOfBurning_25 dX3_homeOfBurning_28 (fun x hx9 => (hext x hx9).elim) (Nat.le_of_ble_eq_true rfl) (Nat.le_of_ble_eq_true rfl) (Nat.le_of_ble_eq_true rfl) (Nat.le_of_ble_eq_true rfl) hlocks (fun t hv1 h1 h2 => ⟨(), trivial, rfl, va_F_grow hS h1 h2⟩) (fun z hz => (hS.2.2 z hz).elim) (by omega) (by omega)
set_option maxHeartbeats 4000000 in
set_option maxRecDepth 100000 in
theorem k_X3_homeOfBurning_x (l : Launch) (hl0 : l.stackTraces = false) (D : va_G) (cI cZ cJ cK : ClassId) (hz9 : Nat) (r0 : Nat) (x0 : Int32) (e0 : Nat) (z0 : Nat) (o0 : Nat) (t0 : Nat) (qn : Int32) (eh : Nat) (eo : Nat) (ev : Nat) (er : Nat) (el : Int32) (n : Nat) (x : Int) (hn : el = iI ↑n) (hn4 : n ≤ 40) (hxv : x0 = iI x) (hxr : -2147483648 ≤ x ∧ x < 2147483648) (hxb : ¬ (0 ≤ x ∧ x < ↑n)) : vx_Met l yX3_homeOfBurning (ws_ yX3_homeOfBurning cX3_homeOfBurning 3 (Option.some (.object "RadixHearth$Hearth"))) ({ frames := 7, cells := 1, slots := 6, locals := 103 }) (va_Pc [.ref r0, .int x0] (wPre D cI cZ cJ cK hz9 [(r0, .inr (3, [.ref e0, .ref z0, .ref o0, .ref t0, .int qn])), (e0, .inr (0, [.ref eh, .ref eo, .ref ev, .ref er, .int el]))])) (va_Qr (fun (_ : Unit) => True) (fun _ r _ => (False)) (fun _ => False)) (vx_X (fun (_ : Unit) => True) (fun E _ _ => E = xI) (fun _ => False)) 1 6 (fun _ => False) := by
  refine vx_ofW (cc := cX3_homeOfBurning) (maxL := 3) (ret := (Option.some (.object "RadixHearth$Hearth"))) (by decide) rfl ?_
  intro p e s m args below meth c s₁ hBd hml hext hv
  obtain ⟨rfl, hsz, hP, hD, hK, hT, hZ⟩ := hv
  have hx := hBd.exec
  have hb := hBd.bytes
  have hr := hBd.returns
  have hts : ∀ w ∈ lw_G, w.before _ s = true := fun w h => atoms_spec (ws := (ws_ yX3_homeOfBurning cX3_homeOfBurning 3 (Option.some (.object "RadixHearth$Hearth")))) hBd.pre w (List.mem_cons_of_mem _ h)
  have hown : s.vm.findClass RX3 = some m.cls := findClass_of_methodNamed hBd.named
  have hlocks := hBd.notSynchronized
  subst hsz
  have hS : va_S (fun _ => False) s.heap s.heap [] := va_S.rf
  have hl := lv_entry ([.ref r0, .int x0]) (n := 3) (Nat.le_of_ble_eq_true rfl)
  rw [lg_entry_eq]
  generalize (lg_sl ([.ref r0, .int x0]) ++ List.replicate (3 - (lg_sl ([.ref r0, .int x0])).length) Slot.unset).toArray = ls at hl ⊢
  have hl : lv_has ls 3 [(0, .ref r0), (1, .int x0)] := hl
  have hP : va_P D vwCl [(r0, .inr (3, [.ref e0, .ref z0, .ref o0, .ref t0, .int qn])), (e0, .inr (0, [.ref eh, .ref eo, .ref ev, .ref er, .int el]))] s.heap := hP
  refine lv_aload_n hx hb dX3_homeOfBurning_0 rfl (lv_at hl 0 rfl) ?_
  refine lv_iload_n hx hb dX3_homeOfBurning_1 rfl (lv_at hl 1 rfl) ?_
  refine cx_v (vx_runV (As := [.int x0]) (rest := []) ⟨hx, hb, hml, hown, hts⟩ (k_X3_refuseUnlit_x l hl0 D cI cZ cJ cK _ r0 x0 e0 z0 o0 t0 qn eh eo ev er el n x (hn) (hn4) (hxv) (hxr) (hxb)) (cwV 1 hts (gV qw373 qw375 qw5 qw10 qw376) rfl rfl rfl (by decide +kernel) ⟨Nat.le_of_ble_eq_true rfl, Nat.le_of_ble_eq_true rfl⟩) (pv (ci := 3) (r := (RX3, TX3, 5)) (q0 := 0) hP hD hK hT hZ hS [0, 1] rfl rfl rfl rfl) rfl rfl hl.1 rfl (lv_room (Nat.le_of_ble_eq_true rfl)) dX3_homeOfBurning_2 ⟨Nat.le_of_ble_eq_true rfl, Nat.le_of_ble_eq_true rfl⟩) hS hP (fun E9 ce9 q9 H locs hE9 hP hS hq9 hv9 hc9 => ?_) (fun H locs hw_2 hP hS => ?_)
  · exact vx_out (fun x hx9 => (hext x hx9).elim) hlocks hq9 hv9 hc9 (fun t ht hW => ⟨(), trivial, hE9, hS.F ht⟩) (fun z hz => (hS.2.2 z hz).elim) (by omega) (by omega)
  refine id ?_
  exact hw_2.elim
set_option maxHeartbeats 4000000 in
set_option maxRecDepth 100000 in
theorem k_X3_light_x (l : Launch) (hl0 : l.stackTraces = false) (D : va_G) (cI cZ cJ cK : ClassId) (hz9 : Nat) (r0 : Nat) (h0 : Int32) (y1 : Int32) (e0 : Nat) (z0 : Nat) (o0 : Nat) (t0 : Nat) (qn : Int32) (h : Int) (hhv : h0 = iI h) (hhr : -2147483648 ≤ h ∧ h < 2147483648) (hhb : ¬ (0 ≤ h ∧ h < 2)) : vx_Met l yX3_light (ws_ yX3_light cX3_light 5 (Option.some .int)) ({ frames := 7, cells := 1, slots := 6, locals := 103 }) (va_Pc [.ref r0, .int h0, .int y1] (wPre D cI cZ cJ cK hz9 [(r0, .inr (3, [.ref e0, .ref z0, .ref o0, .ref t0, .int qn]))])) (va_Qi (fun r (_ : Unit) => (False)) (fun _ _ => True) (fun _ => False)) (vx_X (fun (_ : Unit) => True) (fun E _ _ => E = xI) (fun _ => False)) 1 6 (fun _ => False) := by
  refine vx_ofW (cc := cX3_light) (maxL := 5) (ret := (Option.some .int)) (by decide) rfl ?_
  intro p e s m args below meth c s₁ hBd hml hext hv
  obtain ⟨rfl, hsz, hP, hD, hK, hT, hZ⟩ := hv
  have hx := hBd.exec
  have hb := hBd.bytes
  have hr := hBd.returns
  have hts : ∀ w ∈ lw_G, w.before _ s = true := fun w h => atoms_spec (ws := (ws_ yX3_light cX3_light 5 (Option.some .int))) hBd.pre w (List.mem_cons_of_mem _ h)
  have hown : s.vm.findClass RX3 = some m.cls := findClass_of_methodNamed hBd.named
  have hlocks := hBd.notSynchronized
  subst hsz
  have hS : va_S (fun _ => False) s.heap s.heap [] := va_S.rf
  have hl := lv_entry ([.ref r0, .int h0, .int y1]) (n := 5) (Nat.le_of_ble_eq_true rfl)
  rw [lg_entry_eq]
  generalize (lg_sl ([.ref r0, .int h0, .int y1]) ++ List.replicate (5 - (lg_sl ([.ref r0, .int h0, .int y1])).length) Slot.unset).toArray = ls at hl ⊢
  have hl : lv_has ls 5 [(0, .ref r0), (1, .int h0), (2, .int y1)] := hl
  have hP : va_P D vwCl [(r0, .inr (3, [.ref e0, .ref z0, .ref o0, .ref t0, .int qn]))] s.heap := hP
  refine lv_aload_n hx hb dX3_light_0 rfl (lv_at hl 0 rfl) ?_
  refine lv_iload_n hx hb dX3_light_1 rfl (lv_at hl 1 rfl) ?_
  refine cx_r (vx_runV (As := [.int h0]) (rest := []) ⟨hx, hb, hml, hown, hts⟩ (k_X3_hearthOf_x l hl0 D cI cZ cJ cK _ r0 h0 e0 z0 o0 t0 qn h (hhv) (hhr) (hhb)) (cwV 1 hts (gV qw119 qw121 qw0 qw10 qw122) rfl rfl rfl (by decide +kernel) ⟨Nat.le_of_ble_eq_true rfl, Nat.le_of_ble_eq_true rfl⟩) (pv (ci := 3) (r := (RX3, TX3, 5)) (q0 := 0) hP hD hK hT hZ hS [0] rfl rfl rfl rfl) rfl rfl hl.1 rfl (lv_room (Nat.le_of_ble_eq_true rfl)) dX3_light_2 ⟨Nat.le_of_ble_eq_true rfl, Nat.le_of_ble_eq_true rfl⟩) hS hP (fun E9 ce9 q9 H locs hE9 hP hS hq9 hv9 hc9 => ?_) (fun x_2 H locs hw_2 hP hS => ?_)
  · exact vx_out (fun x hx9 => (hext x hx9).elim) hlocks hq9 hv9 hc9 (fun t ht hW => ⟨(), trivial, hE9, hS.F ht⟩) (fun z hz => (hS.2.2 z hz).elim) (by omega) (by omega)
  refine id ?_
  exact hw_2.elim
set_option maxHeartbeats 4000000 in
set_option maxRecDepth 100000 in
theorem k_X3_rake_x (l : Launch) (hl0 : l.stackTraces = false) (D : va_G) (cI cZ cJ cK : ClassId) (hz9 : Nat) (r0 : Nat) (h0 : Int32) (e0 : Nat) (z0 : Nat) (o0 : Nat) (t0 : Nat) (qn : Int32) (h : Int) (hhv : h0 = iI h) (hhr : -2147483648 ≤ h ∧ h < 2147483648) (hhb : ¬ (0 ≤ h ∧ h < 2)) : vx_Met l yX3_rake (ws_ yX3_rake cX3_rake 4 (Option.some .int)) ({ frames := 7, cells := 1, slots := 6, locals := 103 }) (va_Pc [.ref r0, .int h0] (wPre D cI cZ cJ cK hz9 [(r0, .inr (3, [.ref e0, .ref z0, .ref o0, .ref t0, .int qn]))])) (va_Qi (fun r (_ : Unit) => (False)) (fun _ _ => True) (fun _ => False)) (vx_X (fun (_ : Unit) => True) (fun E _ _ => E = xI) (fun _ => False)) 1 6 (fun _ => False) := by
  refine vx_ofW (cc := cX3_rake) (maxL := 4) (ret := (Option.some .int)) (by decide) rfl ?_
  intro p e s m args below meth c s₁ hBd hml hext hv
  obtain ⟨rfl, hsz, hP, hD, hK, hT, hZ⟩ := hv
  have hx := hBd.exec
  have hb := hBd.bytes
  have hr := hBd.returns
  have hts : ∀ w ∈ lw_G, w.before _ s = true := fun w h => atoms_spec (ws := (ws_ yX3_rake cX3_rake 4 (Option.some .int))) hBd.pre w (List.mem_cons_of_mem _ h)
  have hown : s.vm.findClass RX3 = some m.cls := findClass_of_methodNamed hBd.named
  have hlocks := hBd.notSynchronized
  subst hsz
  have hS : va_S (fun _ => False) s.heap s.heap [] := va_S.rf
  have hl := lv_entry ([.ref r0, .int h0]) (n := 4) (Nat.le_of_ble_eq_true rfl)
  rw [lg_entry_eq]
  generalize (lg_sl ([.ref r0, .int h0]) ++ List.replicate (4 - (lg_sl ([.ref r0, .int h0])).length) Slot.unset).toArray = ls at hl ⊢
  have hl : lv_has ls 4 [(0, .ref r0), (1, .int h0)] := hl
  have hP : va_P D vwCl [(r0, .inr (3, [.ref e0, .ref z0, .ref o0, .ref t0, .int qn]))] s.heap := hP
  refine lv_aload_n hx hb dX3_rake_0 rfl (lv_at hl 0 rfl) ?_
  refine lv_iload_n hx hb dX3_rake_1 rfl (lv_at hl 1 rfl) ?_
  refine cx_r (vx_runV (As := [.int h0]) (rest := []) ⟨hx, hb, hml, hown, hts⟩ (k_X3_hearthOf_x l hl0 D cI cZ cJ cK _ r0 h0 e0 z0 o0 t0 qn h (hhv) (hhr) (hhb)) (cwV 1 hts (gV qw119 qw121 qw0 qw10 qw122) rfl rfl rfl (by decide +kernel) ⟨Nat.le_of_ble_eq_true rfl, Nat.le_of_ble_eq_true rfl⟩) (pv (ci := 3) (r := (RX3, TX3, 5)) (q0 := 0) hP hD hK hT hZ hS [0] rfl rfl rfl rfl) rfl rfl hl.1 rfl (lv_room (Nat.le_of_ble_eq_true rfl)) dX3_rake_2 ⟨Nat.le_of_ble_eq_true rfl, Nat.le_of_ble_eq_true rfl⟩) hS hP (fun E9 ce9 q9 H locs hE9 hP hS hq9 hv9 hc9 => ?_) (fun x_2 H locs hw_2 hP hS => ?_)
  · exact vx_out (fun x hx9 => (hext x hx9).elim) hlocks hq9 hv9 hc9 (fun t ht hW => ⟨(), trivial, hE9, hS.F ht⟩) (fun z hz => (hS.2.2 z hz).elim) (by omega) (by omega)
  refine id ?_
  exact hw_2.elim
set_option maxHeartbeats 4000000 in
set_option maxRecDepth 100000 in
theorem k_X3_raise_x (l : Launch) (hl0 : l.stackTraces = false) (D : va_G) (cI cZ cJ cK : ClassId) (hz9 : Nat) (r0 : Nat) (h0 : Int32) (y1 : Int32) (e0 : Nat) (z0 : Nat) (o0 : Nat) (t0 : Nat) (qn : Int32) (h : Int) (hhv : h0 = iI h) (hhr : -2147483648 ≤ h ∧ h < 2147483648) (hhb : ¬ (0 ≤ h ∧ h < 2)) : vx_Met l yX3_raise (ws_ yX3_raise cX3_raise 4 (Option.some .int)) ({ frames := 7, cells := 1, slots := 6, locals := 103 }) (va_Pc [.ref r0, .int h0, .int y1] (wPre D cI cZ cJ cK hz9 [(r0, .inr (3, [.ref e0, .ref z0, .ref o0, .ref t0, .int qn]))])) (va_Qi (fun r (_ : Unit) => (False)) (fun _ _ => True) (fun _ => False)) (vx_X (fun (_ : Unit) => True) (fun E _ _ => E = xI) (fun _ => False)) 1 6 (fun _ => False) := by
  refine vx_ofW (cc := cX3_raise) (maxL := 4) (ret := (Option.some .int)) (by decide) rfl ?_
  intro p e s m args below meth c s₁ hBd hml hext hv
  obtain ⟨rfl, hsz, hP, hD, hK, hT, hZ⟩ := hv
  have hx := hBd.exec
  have hb := hBd.bytes
  have hr := hBd.returns
  have hts : ∀ w ∈ lw_G, w.before _ s = true := fun w h => atoms_spec (ws := (ws_ yX3_raise cX3_raise 4 (Option.some .int))) hBd.pre w (List.mem_cons_of_mem _ h)
  have hown : s.vm.findClass RX3 = some m.cls := findClass_of_methodNamed hBd.named
  have hlocks := hBd.notSynchronized
  subst hsz
  have hS : va_S (fun _ => False) s.heap s.heap [] := va_S.rf
  have hl := lv_entry ([.ref r0, .int h0, .int y1]) (n := 4) (Nat.le_of_ble_eq_true rfl)
  rw [lg_entry_eq]
  generalize (lg_sl ([.ref r0, .int h0, .int y1]) ++ List.replicate (4 - (lg_sl ([.ref r0, .int h0, .int y1])).length) Slot.unset).toArray = ls at hl ⊢
  have hl : lv_has ls 4 [(0, .ref r0), (1, .int h0), (2, .int y1)] := hl
  have hP : va_P D vwCl [(r0, .inr (3, [.ref e0, .ref z0, .ref o0, .ref t0, .int qn]))] s.heap := hP
  refine lv_aload_n hx hb dX3_raise_0 rfl (lv_at hl 0 rfl) ?_
  refine lv_iload_n hx hb dX3_raise_1 rfl (lv_at hl 1 rfl) ?_
  refine cx_r (vx_runV (As := [.int h0]) (rest := []) ⟨hx, hb, hml, hown, hts⟩ (k_X3_hearthOf_x l hl0 D cI cZ cJ cK _ r0 h0 e0 z0 o0 t0 qn h (hhv) (hhr) (hhb)) (cwV 1 hts (gV qw119 qw121 qw0 qw10 qw122) rfl rfl rfl (by decide +kernel) ⟨Nat.le_of_ble_eq_true rfl, Nat.le_of_ble_eq_true rfl⟩) (pv (ci := 3) (r := (RX3, TX3, 5)) (q0 := 0) hP hD hK hT hZ hS [0] rfl rfl rfl rfl) rfl rfl hl.1 rfl (lv_room (Nat.le_of_ble_eq_true rfl)) dX3_raise_2 ⟨Nat.le_of_ble_eq_true rfl, Nat.le_of_ble_eq_true rfl⟩) hS hP (fun E9 ce9 q9 H locs hE9 hP hS hq9 hv9 hc9 => ?_) (fun x_2 H locs hw_2 hP hS => ?_)
  · exact vx_out (fun x hx9 => (hext x hx9).elim) hlocks hq9 hv9 hc9 (fun t ht hW => ⟨(), trivial, hE9, hS.F ht⟩) (fun z hz => (hS.2.2 z hz).elim) (by omega) (by omega)
  refine id ?_
  exact hw_2.elim
set_option maxHeartbeats 4000000 in
set_option maxRecDepth 100000 in
theorem k_X3_pour_x (l : Launch) (hl0 : l.stackTraces = false) (D : va_G) (cI cZ cJ cK : ClassId) (hz9 : Nat) (r0 : Nat) (h0 : Int32) (e0 : Nat) (z0 : Nat) (o0 : Nat) (t0 : Nat) (qn : Int32) (h : Int) (hhv : h0 = iI h) (hhr : -2147483648 ≤ h ∧ h < 2147483648) (hhb : ¬ (0 ≤ h ∧ h < 2)) : vx_Met l yX3_pour (ws_ yX3_pour cX3_pour 8 (Option.some .int)) ({ frames := 7, cells := 1, slots := 6, locals := 103 }) (va_Pc [.ref r0, .int h0] (wPre D cI cZ cJ cK hz9 [(r0, .inr (3, [.ref e0, .ref z0, .ref o0, .ref t0, .int qn]))])) (va_Qi (fun r (_ : Unit) => (False)) (fun _ _ => True) (fun _ => False)) (vx_X (fun (_ : Unit) => True) (fun E _ _ => E = xI) (fun _ => False)) 1 6 (fun _ => False) := by
  refine vx_ofW (cc := cX3_pour) (maxL := 8) (ret := (Option.some .int)) (by decide) rfl ?_
  intro p e s m args below meth c s₁ hBd hml hext hv
  obtain ⟨rfl, hsz, hP, hD, hK, hT, hZ⟩ := hv
  have hx := hBd.exec
  have hb := hBd.bytes
  have hr := hBd.returns
  have hts : ∀ w ∈ lw_G, w.before _ s = true := fun w h => atoms_spec (ws := (ws_ yX3_pour cX3_pour 8 (Option.some .int))) hBd.pre w (List.mem_cons_of_mem _ h)
  have hown : s.vm.findClass RX3 = some m.cls := findClass_of_methodNamed hBd.named
  have hlocks := hBd.notSynchronized
  subst hsz
  have hS : va_S (fun _ => False) s.heap s.heap [] := va_S.rf
  have hl := lv_entry ([.ref r0, .int h0]) (n := 8) (Nat.le_of_ble_eq_true rfl)
  rw [lg_entry_eq]
  generalize (lg_sl ([.ref r0, .int h0]) ++ List.replicate (8 - (lg_sl ([.ref r0, .int h0])).length) Slot.unset).toArray = ls at hl ⊢
  have hl : lv_has ls 8 [(0, .ref r0), (1, .int h0)] := hl
  have hP : va_P D vwCl [(r0, .inr (3, [.ref e0, .ref z0, .ref o0, .ref t0, .int qn]))] s.heap := hP
  refine lv_aload_n hx hb dX3_pour_0 rfl (lv_at hl 0 rfl) ?_
  refine lv_iload_n hx hb dX3_pour_1 rfl (lv_at hl 1 rfl) ?_
  refine cx_r (vx_runV (As := [.int h0]) (rest := []) ⟨hx, hb, hml, hown, hts⟩ (k_X3_hearthOf_x l hl0 D cI cZ cJ cK _ r0 h0 e0 z0 o0 t0 qn h (hhv) (hhr) (hhb)) (cwV 1 hts (gV qw119 qw121 qw0 qw10 qw122) rfl rfl rfl (by decide +kernel) ⟨Nat.le_of_ble_eq_true rfl, Nat.le_of_ble_eq_true rfl⟩) (pv (ci := 3) (r := (RX3, TX3, 5)) (q0 := 0) hP hD hK hT hZ hS [0] rfl rfl rfl rfl) rfl rfl hl.1 rfl (lv_room (Nat.le_of_ble_eq_true rfl)) dX3_pour_2 ⟨Nat.le_of_ble_eq_true rfl, Nat.le_of_ble_eq_true rfl⟩) hS hP (fun E9 ce9 q9 H locs hE9 hP hS hq9 hv9 hc9 => ?_) (fun x_2 H locs hw_2 hP hS => ?_)
  · exact vx_out (fun x hx9 => (hext x hx9).elim) hlocks hq9 hv9 hc9 (fun t ht hW => ⟨(), trivial, hE9, hS.F ht⟩) (fun z hz => (hS.2.2 z hz).elim) (by omega) (by omega)
  refine id ?_
  exact hw_2.elim
set_option maxHeartbeats 4000000 in
set_option maxRecDepth 100000 in
theorem k_X3_many_x (l : Launch) (hl0 : l.stackTraces = false) (D : va_G) (cI cZ cJ cK : ClassId) (hz9 : Nat) (r0 : Nat) (h0 : Int32) (y1 : Int32) (e0 : Nat) (z0 : Nat) (o0 : Nat) (t0 : Nat) (qn : Int32) (h : Int) (hhv : h0 = iI h) (hhr : -2147483648 ≤ h ∧ h < 2147483648) (hhb : ¬ (0 ≤ h ∧ h < 2)) : vx_Met l yX3_many (ws_ yX3_many cX3_many 4 (Option.some .int)) ({ frames := 7, cells := 1, slots := 6, locals := 103 }) (va_Pc [.ref r0, .int h0, .int y1] (wPre D cI cZ cJ cK hz9 [(r0, .inr (3, [.ref e0, .ref z0, .ref o0, .ref t0, .int qn]))])) (va_Qi (fun r (_ : Unit) => (False)) (fun _ _ => True) (fun _ => False)) (vx_X (fun (_ : Unit) => True) (fun E _ _ => E = xI) (fun _ => False)) 1 6 (fun _ => False) := by
  refine vx_ofW (cc := cX3_many) (maxL := 4) (ret := (Option.some .int)) (by decide) rfl ?_
  intro p e s m args below meth c s₁ hBd hml hext hv
  obtain ⟨rfl, hsz, hP, hD, hK, hT, hZ⟩ := hv
  have hx := hBd.exec
  have hb := hBd.bytes
  have hr := hBd.returns
  have hts : ∀ w ∈ lw_G, w.before _ s = true := fun w h => atoms_spec (ws := (ws_ yX3_many cX3_many 4 (Option.some .int))) hBd.pre w (List.mem_cons_of_mem _ h)
  have hown : s.vm.findClass RX3 = some m.cls := findClass_of_methodNamed hBd.named
  have hlocks := hBd.notSynchronized
  subst hsz
  have hS : va_S (fun _ => False) s.heap s.heap [] := va_S.rf
  have hl := lv_entry ([.ref r0, .int h0, .int y1]) (n := 4) (Nat.le_of_ble_eq_true rfl)
  rw [lg_entry_eq]
  generalize (lg_sl ([.ref r0, .int h0, .int y1]) ++ List.replicate (4 - (lg_sl ([.ref r0, .int h0, .int y1])).length) Slot.unset).toArray = ls at hl ⊢
  have hl : lv_has ls 4 [(0, .ref r0), (1, .int h0), (2, .int y1)] := hl
  have hP : va_P D vwCl [(r0, .inr (3, [.ref e0, .ref z0, .ref o0, .ref t0, .int qn]))] s.heap := hP
  refine lv_aload_n hx hb dX3_many_0 rfl (lv_at hl 0 rfl) ?_
  refine lv_iload_n hx hb dX3_many_1 rfl (lv_at hl 1 rfl) ?_
  refine cx_r (vx_runV (As := [.int h0]) (rest := []) ⟨hx, hb, hml, hown, hts⟩ (k_X3_hearthOf_x l hl0 D cI cZ cJ cK _ r0 h0 e0 z0 o0 t0 qn h (hhv) (hhr) (hhb)) (cwV 1 hts (gV qw119 qw121 qw0 qw10 qw122) rfl rfl rfl (by decide +kernel) ⟨Nat.le_of_ble_eq_true rfl, Nat.le_of_ble_eq_true rfl⟩) (pv (ci := 3) (r := (RX3, TX3, 5)) (q0 := 0) hP hD hK hT hZ hS [0] rfl rfl rfl rfl) rfl rfl hl.1 rfl (lv_room (Nat.le_of_ble_eq_true rfl)) dX3_many_2 ⟨Nat.le_of_ble_eq_true rfl, Nat.le_of_ble_eq_true rfl⟩) hS hP (fun E9 ce9 q9 H locs hE9 hP hS hq9 hv9 hc9 => ?_) (fun x_2 H locs hw_2 hP hS => ?_)
  · exact vx_out (fun x hx9 => (hext x hx9).elim) hlocks hq9 hv9 hc9 (fun t ht hW => ⟨(), trivial, hE9, hS.F ht⟩) (fun z hz => (hS.2.2 z hz).elim) (by omega) (by omega)
  refine id ?_
  exact hw_2.elim
set_option maxHeartbeats 4000000 in
set_option maxRecDepth 100000 in
theorem k_X3_lies_x (l : Launch) (hl0 : l.stackTraces = false) (D : va_G) (cI cZ cJ cK : ClassId) (hz9 : Nat) (r0 : Nat) (h0 : Int32) (y1 : Int32) (y2 : Int32) (e0 : Nat) (z0 : Nat) (o0 : Nat) (t0 : Nat) (qn : Int32) (h : Int) (hhv : h0 = iI h) (hhr : -2147483648 ≤ h ∧ h < 2147483648) (hhb : ¬ (0 ≤ h ∧ h < 2)) : vx_Met l yX3_lies (ws_ yX3_lies cX3_lies 5 (Option.some .int)) ({ frames := 7, cells := 1, slots := 6, locals := 103 }) (va_Pc [.ref r0, .int h0, .int y1, .int y2] (wPre D cI cZ cJ cK hz9 [(r0, .inr (3, [.ref e0, .ref z0, .ref o0, .ref t0, .int qn]))])) (va_Qi (fun r (_ : Unit) => (False)) (fun _ _ => True) (fun _ => False)) (vx_X (fun (_ : Unit) => True) (fun E _ _ => E = xI) (fun _ => False)) 1 6 (fun _ => False) := by
  refine vx_ofW (cc := cX3_lies) (maxL := 5) (ret := (Option.some .int)) (by decide) rfl ?_
  intro p e s m args below meth c s₁ hBd hml hext hv
  obtain ⟨rfl, hsz, hP, hD, hK, hT, hZ⟩ := hv
  have hx := hBd.exec
  have hb := hBd.bytes
  have hr := hBd.returns
  have hts : ∀ w ∈ lw_G, w.before _ s = true := fun w h => atoms_spec (ws := (ws_ yX3_lies cX3_lies 5 (Option.some .int))) hBd.pre w (List.mem_cons_of_mem _ h)
  have hown : s.vm.findClass RX3 = some m.cls := findClass_of_methodNamed hBd.named
  have hlocks := hBd.notSynchronized
  subst hsz
  have hS : va_S (fun _ => False) s.heap s.heap [] := va_S.rf
  have hl := lv_entry ([.ref r0, .int h0, .int y1, .int y2]) (n := 5) (Nat.le_of_ble_eq_true rfl)
  rw [lg_entry_eq]
  generalize (lg_sl ([.ref r0, .int h0, .int y1, .int y2]) ++ List.replicate (5 - (lg_sl ([.ref r0, .int h0, .int y1, .int y2])).length) Slot.unset).toArray = ls at hl ⊢
  have hl : lv_has ls 5 [(0, .ref r0), (1, .int h0), (2, .int y1), (3, .int y2)] := hl
  have hP : va_P D vwCl [(r0, .inr (3, [.ref e0, .ref z0, .ref o0, .ref t0, .int qn]))] s.heap := hP
  refine lv_aload_n hx hb dX3_lies_0 rfl (lv_at hl 0 rfl) ?_
  refine lv_iload_n hx hb dX3_lies_1 rfl (lv_at hl 1 rfl) ?_
  refine cx_r (vx_runV (As := [.int h0]) (rest := []) ⟨hx, hb, hml, hown, hts⟩ (k_X3_hearthOf_x l hl0 D cI cZ cJ cK _ r0 h0 e0 z0 o0 t0 qn h (hhv) (hhr) (hhb)) (cwV 1 hts (gV qw119 qw121 qw0 qw10 qw122) rfl rfl rfl (by decide +kernel) ⟨Nat.le_of_ble_eq_true rfl, Nat.le_of_ble_eq_true rfl⟩) (pv (ci := 3) (r := (RX3, TX3, 5)) (q0 := 0) hP hD hK hT hZ hS [0] rfl rfl rfl rfl) rfl rfl hl.1 rfl (lv_room (Nat.le_of_ble_eq_true rfl)) dX3_lies_2 ⟨Nat.le_of_ble_eq_true rfl, Nat.le_of_ble_eq_true rfl⟩) hS hP (fun E9 ce9 q9 H locs hE9 hP hS hq9 hv9 hc9 => ?_) (fun x_2 H locs hw_2 hP hS => ?_)
  · exact vx_out (fun x hx9 => (hext x hx9).elim) hlocks hq9 hv9 hc9 (fun t ht hW => ⟨(), trivial, hE9, hS.F ht⟩) (fun z hz => (hS.2.2 z hz).elim) (by omega) (by omega)
  refine id ?_
  exact hw_2.elim
set_option maxHeartbeats 4000000 in
set_option maxRecDepth 100000 in
theorem k_X3_bucketOf_x (l : Launch) (hl0 : l.stackTraces = false) (D : va_G) (cI cZ cJ cK : ClassId) (hz9 : Nat) (r0 : Nat) (h0 : Int32) (y1 : Int32) (e0 : Nat) (z0 : Nat) (o0 : Nat) (t0 : Nat) (qn : Int32) (h : Int) (hhv : h0 = iI h) (hhr : -2147483648 ≤ h ∧ h < 2147483648) (hhb : ¬ (0 ≤ h ∧ h < 2)) : vx_Met l yX3_bucketOf (ws_ yX3_bucketOf cX3_bucketOf 4 (Option.some .int)) ({ frames := 7, cells := 1, slots := 6, locals := 103 }) (va_Pc [.ref r0, .int h0, .int y1] (wPre D cI cZ cJ cK hz9 [(r0, .inr (3, [.ref e0, .ref z0, .ref o0, .ref t0, .int qn]))])) (va_Qi (fun r (_ : Unit) => (False)) (fun _ _ => True) (fun _ => False)) (vx_X (fun (_ : Unit) => True) (fun E _ _ => E = xI) (fun _ => False)) 1 6 (fun _ => False) := by
  refine vx_ofW (cc := cX3_bucketOf) (maxL := 4) (ret := (Option.some .int)) (by decide) rfl ?_
  intro p e s m args below meth c s₁ hBd hml hext hv
  obtain ⟨rfl, hsz, hP, hD, hK, hT, hZ⟩ := hv
  have hx := hBd.exec
  have hb := hBd.bytes
  have hr := hBd.returns
  have hts : ∀ w ∈ lw_G, w.before _ s = true := fun w h => atoms_spec (ws := (ws_ yX3_bucketOf cX3_bucketOf 4 (Option.some .int))) hBd.pre w (List.mem_cons_of_mem _ h)
  have hown : s.vm.findClass RX3 = some m.cls := findClass_of_methodNamed hBd.named
  have hlocks := hBd.notSynchronized
  subst hsz
  have hS : va_S (fun _ => False) s.heap s.heap [] := va_S.rf
  have hl := lv_entry ([.ref r0, .int h0, .int y1]) (n := 4) (Nat.le_of_ble_eq_true rfl)
  rw [lg_entry_eq]
  generalize (lg_sl ([.ref r0, .int h0, .int y1]) ++ List.replicate (4 - (lg_sl ([.ref r0, .int h0, .int y1])).length) Slot.unset).toArray = ls at hl ⊢
  have hl : lv_has ls 4 [(0, .ref r0), (1, .int h0), (2, .int y1)] := hl
  have hP : va_P D vwCl [(r0, .inr (3, [.ref e0, .ref z0, .ref o0, .ref t0, .int qn]))] s.heap := hP
  refine lv_aload_n hx hb dX3_bucketOf_0 rfl (lv_at hl 0 rfl) ?_
  refine lv_iload_n hx hb dX3_bucketOf_1 rfl (lv_at hl 1 rfl) ?_
  refine cx_r (vx_runV (As := [.int h0]) (rest := []) ⟨hx, hb, hml, hown, hts⟩ (k_X3_hearthOf_x l hl0 D cI cZ cJ cK _ r0 h0 e0 z0 o0 t0 qn h (hhv) (hhr) (hhb)) (cwV 1 hts (gV qw119 qw121 qw0 qw10 qw122) rfl rfl rfl (by decide +kernel) ⟨Nat.le_of_ble_eq_true rfl, Nat.le_of_ble_eq_true rfl⟩) (pv (ci := 3) (r := (RX3, TX3, 5)) (q0 := 0) hP hD hK hT hZ hS [0] rfl rfl rfl rfl) rfl rfl hl.1 rfl (lv_room (Nat.le_of_ble_eq_true rfl)) dX3_bucketOf_2 ⟨Nat.le_of_ble_eq_true rfl, Nat.le_of_ble_eq_true rfl⟩) hS hP (fun E9 ce9 q9 H locs hE9 hP hS hq9 hv9 hc9 => ?_) (fun x_2 H locs hw_2 hP hS => ?_)
  · exact vx_out (fun x hx9 => (hext x hx9).elim) hlocks hq9 hv9 hc9 (fun t ht hW => ⟨(), trivial, hE9, hS.F ht⟩) (fun z hz => (hS.2.2 z hz).elim) (by omega) (by omega)
  refine id ?_
  exact hw_2.elim
set_option maxHeartbeats 4000000 in
set_option maxRecDepth 100000 in
theorem k_X3_about_x (l : Launch) (hl0 : l.stackTraces = false) (D : va_G) (cI cZ cJ cK : ClassId) (hz9 : Nat) (r0 : Nat) (h0 : Int32) (y1 : Int32) (e0 : Nat) (z0 : Nat) (o0 : Nat) (t0 : Nat) (qn : Int32) (h : Int) (hhv : h0 = iI h) (hhr : -2147483648 ≤ h ∧ h < 2147483648) (hhb : ¬ (0 ≤ h ∧ h < 2)) : vx_Met l yX3_about (ws_ yX3_about cX3_about 4 (Option.some .int)) ({ frames := 7, cells := 1, slots := 6, locals := 103 }) (va_Pc [.ref r0, .int h0, .int y1] (wPre D cI cZ cJ cK hz9 [(r0, .inr (3, [.ref e0, .ref z0, .ref o0, .ref t0, .int qn]))])) (va_Qi (fun r (_ : Unit) => (False)) (fun _ _ => True) (fun _ => False)) (vx_X (fun (_ : Unit) => True) (fun E _ _ => E = xI) (fun _ => False)) 1 6 (fun _ => False) := by
  refine vx_ofW (cc := cX3_about) (maxL := 4) (ret := (Option.some .int)) (by decide) rfl ?_
  intro p e s m args below meth c s₁ hBd hml hext hv
  obtain ⟨rfl, hsz, hP, hD, hK, hT, hZ⟩ := hv
  have hx := hBd.exec
  have hb := hBd.bytes
  have hr := hBd.returns
  have hts : ∀ w ∈ lw_G, w.before _ s = true := fun w h => atoms_spec (ws := (ws_ yX3_about cX3_about 4 (Option.some .int))) hBd.pre w (List.mem_cons_of_mem _ h)
  have hown : s.vm.findClass RX3 = some m.cls := findClass_of_methodNamed hBd.named
  have hlocks := hBd.notSynchronized
  subst hsz
  have hS : va_S (fun _ => False) s.heap s.heap [] := va_S.rf
  have hl := lv_entry ([.ref r0, .int h0, .int y1]) (n := 4) (Nat.le_of_ble_eq_true rfl)
  rw [lg_entry_eq]
  generalize (lg_sl ([.ref r0, .int h0, .int y1]) ++ List.replicate (4 - (lg_sl ([.ref r0, .int h0, .int y1])).length) Slot.unset).toArray = ls at hl ⊢
  have hl : lv_has ls 4 [(0, .ref r0), (1, .int h0), (2, .int y1)] := hl
  have hP : va_P D vwCl [(r0, .inr (3, [.ref e0, .ref z0, .ref o0, .ref t0, .int qn]))] s.heap := hP
  refine lv_aload_n hx hb dX3_about_0 rfl (lv_at hl 0 rfl) ?_
  refine lv_iload_n hx hb dX3_about_1 rfl (lv_at hl 1 rfl) ?_
  refine cx_r (vx_runV (As := [.int h0]) (rest := []) ⟨hx, hb, hml, hown, hts⟩ (k_X3_hearthOf_x l hl0 D cI cZ cJ cK _ r0 h0 e0 z0 o0 t0 qn h (hhv) (hhr) (hhb)) (cwV 1 hts (gV qw119 qw121 qw0 qw10 qw122) rfl rfl rfl (by decide +kernel) ⟨Nat.le_of_ble_eq_true rfl, Nat.le_of_ble_eq_true rfl⟩) (pv (ci := 3) (r := (RX3, TX3, 5)) (q0 := 0) hP hD hK hT hZ hS [0] rfl rfl rfl rfl) rfl rfl hl.1 rfl (lv_room (Nat.le_of_ble_eq_true rfl)) dX3_about_2 ⟨Nat.le_of_ble_eq_true rfl, Nat.le_of_ble_eq_true rfl⟩) hS hP (fun E9 ce9 q9 H locs hE9 hP hS hq9 hv9 hc9 => ?_) (fun x_2 H locs hw_2 hP hS => ?_)
  · exact vx_out (fun x hx9 => (hext x hx9).elim) hlocks hq9 hv9 hc9 (fun t ht hW => ⟨(), trivial, hE9, hS.F ht⟩) (fun z hz => (hS.2.2 z hz).elim) (by omega) (by omega)
  refine id ?_
  exact hw_2.elim
set_option maxHeartbeats 4000000 in
set_option maxRecDepth 100000 in
theorem k_X3_next_x (l : Launch) (hl0 : l.stackTraces = false) (D : va_G) (cI cZ cJ cK : ClassId) (hz9 : Nat) (r0 : Nat) (h0 : Int32) (y1 : Int32) (e0 : Nat) (z0 : Nat) (o0 : Nat) (t0 : Nat) (qn : Int32) (h : Int) (hhv : h0 = iI h) (hhr : -2147483648 ≤ h ∧ h < 2147483648) (hhb : ¬ (0 ≤ h ∧ h < 2)) : vx_Met l yX3_next (ws_ yX3_next cX3_next 4 (Option.some .int)) ({ frames := 7, cells := 1, slots := 6, locals := 103 }) (va_Pc [.ref r0, .int h0, .int y1] (wPre D cI cZ cJ cK hz9 [(r0, .inr (3, [.ref e0, .ref z0, .ref o0, .ref t0, .int qn]))])) (va_Qi (fun r (_ : Unit) => (False)) (fun _ _ => True) (fun _ => False)) (vx_X (fun (_ : Unit) => True) (fun E _ _ => E = xI) (fun _ => False)) 1 6 (fun _ => False) := by
  refine vx_ofW (cc := cX3_next) (maxL := 4) (ret := (Option.some .int)) (by decide) rfl ?_
  intro p e s m args below meth c s₁ hBd hml hext hv
  obtain ⟨rfl, hsz, hP, hD, hK, hT, hZ⟩ := hv
  have hx := hBd.exec
  have hb := hBd.bytes
  have hr := hBd.returns
  have hts : ∀ w ∈ lw_G, w.before _ s = true := fun w h => atoms_spec (ws := (ws_ yX3_next cX3_next 4 (Option.some .int))) hBd.pre w (List.mem_cons_of_mem _ h)
  have hown : s.vm.findClass RX3 = some m.cls := findClass_of_methodNamed hBd.named
  have hlocks := hBd.notSynchronized
  subst hsz
  have hS : va_S (fun _ => False) s.heap s.heap [] := va_S.rf
  have hl := lv_entry ([.ref r0, .int h0, .int y1]) (n := 4) (Nat.le_of_ble_eq_true rfl)
  rw [lg_entry_eq]
  generalize (lg_sl ([.ref r0, .int h0, .int y1]) ++ List.replicate (4 - (lg_sl ([.ref r0, .int h0, .int y1])).length) Slot.unset).toArray = ls at hl ⊢
  have hl : lv_has ls 4 [(0, .ref r0), (1, .int h0), (2, .int y1)] := hl
  have hP : va_P D vwCl [(r0, .inr (3, [.ref e0, .ref z0, .ref o0, .ref t0, .int qn]))] s.heap := hP
  refine lv_aload_n hx hb dX3_next_0 rfl (lv_at hl 0 rfl) ?_
  refine lv_iload_n hx hb dX3_next_1 rfl (lv_at hl 1 rfl) ?_
  refine cx_r (vx_runV (As := [.int h0]) (rest := []) ⟨hx, hb, hml, hown, hts⟩ (k_X3_hearthOf_x l hl0 D cI cZ cJ cK _ r0 h0 e0 z0 o0 t0 qn h (hhv) (hhr) (hhb)) (cwV 1 hts (gV qw119 qw121 qw0 qw10 qw122) rfl rfl rfl (by decide +kernel) ⟨Nat.le_of_ble_eq_true rfl, Nat.le_of_ble_eq_true rfl⟩) (pv (ci := 3) (r := (RX3, TX3, 5)) (q0 := 0) hP hD hK hT hZ hS [0] rfl rfl rfl rfl) rfl rfl hl.1 rfl (lv_room (Nat.le_of_ble_eq_true rfl)) dX3_next_2 ⟨Nat.le_of_ble_eq_true rfl, Nat.le_of_ble_eq_true rfl⟩) hS hP (fun E9 ce9 q9 H locs hE9 hP hS hq9 hv9 hc9 => ?_) (fun x_2 H locs hw_2 hP hS => ?_)
  · exact vx_out (fun x hx9 => (hext x hx9).elim) hlocks hq9 hv9 hc9 (fun t ht hW => ⟨(), trivial, hE9, hS.F ht⟩) (fun z hz => (hS.2.2 z hz).elim) (by omega) (by omega)
  refine id ?_
  exact hw_2.elim
set_option maxHeartbeats 4000000 in
set_option maxRecDepth 100000 in
theorem k_X3_moves_x (l : Launch) (hl0 : l.stackTraces = false) (D : va_G) (cI cZ cJ cK : ClassId) (hz9 : Nat) (r0 : Nat) (h0 : Int32) (y1 : Int32) (e0 : Nat) (z0 : Nat) (o0 : Nat) (t0 : Nat) (qn : Int32) (h : Int) (hhv : h0 = iI h) (hhr : -2147483648 ≤ h ∧ h < 2147483648) (hhb : ¬ (0 ≤ h ∧ h < 2)) : vx_Met l yX3_moves (ws_ yX3_moves cX3_moves 4 (Option.some .int)) ({ frames := 7, cells := 1, slots := 6, locals := 103 }) (va_Pc [.ref r0, .int h0, .int y1] (wPre D cI cZ cJ cK hz9 [(r0, .inr (3, [.ref e0, .ref z0, .ref o0, .ref t0, .int qn]))])) (va_Qi (fun r (_ : Unit) => (False)) (fun _ _ => True) (fun _ => False)) (vx_X (fun (_ : Unit) => True) (fun E _ _ => E = xI) (fun _ => False)) 1 6 (fun _ => False) := by
  refine vx_ofW (cc := cX3_moves) (maxL := 4) (ret := (Option.some .int)) (by decide) rfl ?_
  intro p e s m args below meth c s₁ hBd hml hext hv
  obtain ⟨rfl, hsz, hP, hD, hK, hT, hZ⟩ := hv
  have hx := hBd.exec
  have hb := hBd.bytes
  have hr := hBd.returns
  have hts : ∀ w ∈ lw_G, w.before _ s = true := fun w h => atoms_spec (ws := (ws_ yX3_moves cX3_moves 4 (Option.some .int))) hBd.pre w (List.mem_cons_of_mem _ h)
  have hown : s.vm.findClass RX3 = some m.cls := findClass_of_methodNamed hBd.named
  have hlocks := hBd.notSynchronized
  subst hsz
  have hS : va_S (fun _ => False) s.heap s.heap [] := va_S.rf
  have hl := lv_entry ([.ref r0, .int h0, .int y1]) (n := 4) (Nat.le_of_ble_eq_true rfl)
  rw [lg_entry_eq]
  generalize (lg_sl ([.ref r0, .int h0, .int y1]) ++ List.replicate (4 - (lg_sl ([.ref r0, .int h0, .int y1])).length) Slot.unset).toArray = ls at hl ⊢
  have hl : lv_has ls 4 [(0, .ref r0), (1, .int h0), (2, .int y1)] := hl
  have hP : va_P D vwCl [(r0, .inr (3, [.ref e0, .ref z0, .ref o0, .ref t0, .int qn]))] s.heap := hP
  refine lv_aload_n hx hb dX3_moves_0 rfl (lv_at hl 0 rfl) ?_
  refine lv_iload_n hx hb dX3_moves_1 rfl (lv_at hl 1 rfl) ?_
  refine cx_r (vx_runV (As := [.int h0]) (rest := []) ⟨hx, hb, hml, hown, hts⟩ (k_X3_hearthOf_x l hl0 D cI cZ cJ cK _ r0 h0 e0 z0 o0 t0 qn h (hhv) (hhr) (hhb)) (cwV 1 hts (gV qw119 qw121 qw0 qw10 qw122) rfl rfl rfl (by decide +kernel) ⟨Nat.le_of_ble_eq_true rfl, Nat.le_of_ble_eq_true rfl⟩) (pv (ci := 3) (r := (RX3, TX3, 5)) (q0 := 0) hP hD hK hT hZ hS [0] rfl rfl rfl rfl) rfl rfl hl.1 rfl (lv_room (Nat.le_of_ble_eq_true rfl)) dX3_moves_2 ⟨Nat.le_of_ble_eq_true rfl, Nat.le_of_ble_eq_true rfl⟩) hS hP (fun E9 ce9 q9 H locs hE9 hP hS hq9 hv9 hc9 => ?_) (fun x_2 H locs hw_2 hP hS => ?_)
  · exact vx_out (fun x hx9 => (hext x hx9).elim) hlocks hq9 hv9 hc9 (fun t ht hW => ⟨(), trivial, hE9, hS.F ht⟩) (fun z hz => (hS.2.2 z hz).elim) (by omega) (by omega)
  refine id ?_
  exact hw_2.elim
set_option maxHeartbeats 4000000 in
set_option maxRecDepth 100000 in
theorem k_X3_highest_x (l : Launch) (hl0 : l.stackTraces = false) (D : va_G) (cI cZ cJ cK : ClassId) (hz9 : Nat) (r0 : Nat) (h0 : Int32) (e0 : Nat) (z0 : Nat) (o0 : Nat) (t0 : Nat) (qn : Int32) (h : Int) (hhv : h0 = iI h) (hhr : -2147483648 ≤ h ∧ h < 2147483648) (hhb : ¬ (0 ≤ h ∧ h < 2)) : vx_Met l yX3_highest (ws_ yX3_highest cX3_highest 2 (Option.some .int)) ({ frames := 7, cells := 1, slots := 6, locals := 103 }) (va_Pc [.ref r0, .int h0] (wPre D cI cZ cJ cK hz9 [(r0, .inr (3, [.ref e0, .ref z0, .ref o0, .ref t0, .int qn]))])) (va_Qi (fun r (_ : Unit) => (False)) (fun _ _ => True) (fun _ => False)) (vx_X (fun (_ : Unit) => True) (fun E _ _ => E = xI) (fun _ => False)) 1 6 (fun _ => False) := by
  refine vx_ofW (cc := cX3_highest) (maxL := 2) (ret := (Option.some .int)) (by decide) rfl ?_
  intro p e s m args below meth c s₁ hBd hml hext hv
  obtain ⟨rfl, hsz, hP, hD, hK, hT, hZ⟩ := hv
  have hx := hBd.exec
  have hb := hBd.bytes
  have hr := hBd.returns
  have hts : ∀ w ∈ lw_G, w.before _ s = true := fun w h => atoms_spec (ws := (ws_ yX3_highest cX3_highest 2 (Option.some .int))) hBd.pre w (List.mem_cons_of_mem _ h)
  have hown : s.vm.findClass RX3 = some m.cls := findClass_of_methodNamed hBd.named
  have hlocks := hBd.notSynchronized
  subst hsz
  have hS : va_S (fun _ => False) s.heap s.heap [] := va_S.rf
  have hl := lv_entry ([.ref r0, .int h0]) (n := 2) (Nat.le_of_ble_eq_true rfl)
  rw [lg_entry_eq]
  generalize (lg_sl ([.ref r0, .int h0]) ++ List.replicate (2 - (lg_sl ([.ref r0, .int h0])).length) Slot.unset).toArray = ls at hl ⊢
  have hl : lv_has ls 2 [(0, .ref r0), (1, .int h0)] := hl
  have hP : va_P D vwCl [(r0, .inr (3, [.ref e0, .ref z0, .ref o0, .ref t0, .int qn]))] s.heap := hP
  refine lv_aload_n hx hb dX3_highest_0 rfl (lv_at hl 0 rfl) ?_
  refine lv_iload_n hx hb dX3_highest_1 rfl (lv_at hl 1 rfl) ?_
  refine cx_r (vx_runV (As := [.int h0]) (rest := []) ⟨hx, hb, hml, hown, hts⟩ (k_X3_hearthOf_x l hl0 D cI cZ cJ cK _ r0 h0 e0 z0 o0 t0 qn h (hhv) (hhr) (hhb)) (cwV 1 hts (gV qw119 qw121 qw0 qw10 qw122) rfl rfl rfl (by decide +kernel) ⟨Nat.le_of_ble_eq_true rfl, Nat.le_of_ble_eq_true rfl⟩) (pv (ci := 3) (r := (RX3, TX3, 5)) (q0 := 0) hP hD hK hT hZ hS [0] rfl rfl rfl rfl) rfl rfl hl.1 rfl (lv_room (Nat.le_of_ble_eq_true rfl)) dX3_highest_2 ⟨Nat.le_of_ble_eq_true rfl, Nat.le_of_ble_eq_true rfl⟩) hS hP (fun E9 ce9 q9 H locs hE9 hP hS hq9 hv9 hc9 => ?_) (fun x_2 H locs hw_2 hP hS => ?_)
  · exact vx_out (fun x hx9 => (hext x hx9).elim) hlocks hq9 hv9 hc9 (fun t ht hW => ⟨(), trivial, hE9, hS.F ht⟩) (fun z hz => (hS.2.2 z hz).elim) (by omega) (by omega)
  refine id ?_
  exact hw_2.elim
set_option maxHeartbeats 4000000 in
set_option maxRecDepth 100000 in
theorem k_X3_advise_x (l : Launch) (hl0 : l.stackTraces = false) (D : va_G) (cI cZ cJ cK : ClassId) (hz9 : Nat) (r0 : Nat) (h0 : Int32) (e0 : Nat) (z0 : Nat) (o0 : Nat) (t0 : Nat) (qn : Int32) (h : Int) (hhv : h0 = iI h) (hhr : -2147483648 ≤ h ∧ h < 2147483648) (hhb : ¬ (0 ≤ h ∧ h < 2)) : vx_Met l yX3_advise (ws_ yX3_advise cX3_advise 6 (Option.some .int)) ({ frames := 7, cells := 1, slots := 6, locals := 103 }) (va_Pc [.ref r0, .int h0] (wPre D cI cZ cJ cK hz9 [(r0, .inr (3, [.ref e0, .ref z0, .ref o0, .ref t0, .int qn]))])) (va_Qi (fun r (_ : Unit) => (False)) (fun _ _ => True) (fun _ => False)) (vx_X (fun (_ : Unit) => True) (fun E _ _ => E = xI) (fun _ => False)) 1 6 (fun _ => False) := by
  refine vx_ofW (cc := cX3_advise) (maxL := 6) (ret := (Option.some .int)) (by decide) rfl ?_
  intro p e s m args below meth c s₁ hBd hml hext hv
  obtain ⟨rfl, hsz, hP, hD, hK, hT, hZ⟩ := hv
  have hx := hBd.exec
  have hb := hBd.bytes
  have hr := hBd.returns
  have hts : ∀ w ∈ lw_G, w.before _ s = true := fun w h => atoms_spec (ws := (ws_ yX3_advise cX3_advise 6 (Option.some .int))) hBd.pre w (List.mem_cons_of_mem _ h)
  have hown : s.vm.findClass RX3 = some m.cls := findClass_of_methodNamed hBd.named
  have hlocks := hBd.notSynchronized
  subst hsz
  have hS : va_S (fun _ => False) s.heap s.heap [] := va_S.rf
  have hl := lv_entry ([.ref r0, .int h0]) (n := 6) (Nat.le_of_ble_eq_true rfl)
  rw [lg_entry_eq]
  generalize (lg_sl ([.ref r0, .int h0]) ++ List.replicate (6 - (lg_sl ([.ref r0, .int h0])).length) Slot.unset).toArray = ls at hl ⊢
  have hl : lv_has ls 6 [(0, .ref r0), (1, .int h0)] := hl
  have hP : va_P D vwCl [(r0, .inr (3, [.ref e0, .ref z0, .ref o0, .ref t0, .int qn]))] s.heap := hP
  refine lv_aload_n hx hb dX3_advise_0 rfl (lv_at hl 0 rfl) ?_
  refine lv_iload_n hx hb dX3_advise_1 rfl (lv_at hl 1 rfl) ?_
  refine cx_r (vx_runV (As := [.int h0]) (rest := []) ⟨hx, hb, hml, hown, hts⟩ (k_X3_hearthOf_x l hl0 D cI cZ cJ cK _ r0 h0 e0 z0 o0 t0 qn h (hhv) (hhr) (hhb)) (cwV 1 hts (gV qw119 qw121 qw0 qw10 qw122) rfl rfl rfl (by decide +kernel) ⟨Nat.le_of_ble_eq_true rfl, Nat.le_of_ble_eq_true rfl⟩) (pv (ci := 3) (r := (RX3, TX3, 5)) (q0 := 0) hP hD hK hT hZ hS [0] rfl rfl rfl rfl) rfl rfl hl.1 rfl (lv_room (Nat.le_of_ble_eq_true rfl)) dX3_advise_2 ⟨Nat.le_of_ble_eq_true rfl, Nat.le_of_ble_eq_true rfl⟩) hS hP (fun E9 ce9 q9 H locs hE9 hP hS hq9 hv9 hc9 => ?_) (fun x_2 H locs hw_2 hP hS => ?_)
  · exact vx_out (fun x hx9 => (hext x hx9).elim) hlocks hq9 hv9 hc9 (fun t ht hW => ⟨(), trivial, hE9, hS.F ht⟩) (fun z hz => (hS.2.2 z hz).elim) (by omega) (by omega)
  refine id ?_
  exact hw_2.elim
set_option maxHeartbeats 4000000 in
set_option maxRecDepth 100000 in
theorem k_X3_fade_x (l : Launch) (hl0 : l.stackTraces = false) (D : va_G) (cI cZ cJ cK : ClassId) (hz9 : Nat) (r0 : Nat) (x0 : Int32) (y1 : Int32) (e0 : Nat) (z0 : Nat) (o0 : Nat) (t0 : Nat) (qn : Int32) (eh : Nat) (eo : Nat) (ev : Nat) (er : Nat) (el : Int32) (n : Nat) (x : Int) (hn : el = iI ↑n) (hn4 : n ≤ 40) (hxv : x0 = iI x) (hxr : -2147483648 ≤ x ∧ x < 2147483648) (hxb : ¬ (0 ≤ x ∧ x < ↑n)) : vx_Met l yX3_fade (ws_ yX3_fade cX3_fade 4 (Option.some .int)) ({ frames := 8, cells := 1, slots := 6, locals := 125 }) (va_Pc [.ref r0, .int x0, .int y1] (wPre D cI cZ cJ cK hz9 [(r0, .inr (3, [.ref e0, .ref z0, .ref o0, .ref t0, .int qn])), (e0, .inr (0, [.ref eh, .ref eo, .ref ev, .ref er, .int el]))])) (va_Qi (fun r (_ : Unit) => (False)) (fun _ _ => True) (fun _ => False)) (vx_X (fun (_ : Unit) => True) (fun E _ _ => E = xI) (fun _ => False)) 1 6 (fun _ => False) := by
  refine vx_ofW (cc := cX3_fade) (maxL := 4) (ret := (Option.some .int)) (by decide) rfl ?_
  intro p e s m args below meth c s₁ hBd hml hext hv
  obtain ⟨rfl, hsz, hP, hD, hK, hT, hZ⟩ := hv
  have hx := hBd.exec
  have hb := hBd.bytes
  have hr := hBd.returns
  have hts : ∀ w ∈ lw_G, w.before _ s = true := fun w h => atoms_spec (ws := (ws_ yX3_fade cX3_fade 4 (Option.some .int))) hBd.pre w (List.mem_cons_of_mem _ h)
  have hown : s.vm.findClass RX3 = some m.cls := findClass_of_methodNamed hBd.named
  have hlocks := hBd.notSynchronized
  subst hsz
  have hS : va_S (fun _ => False) s.heap s.heap [] := va_S.rf
  have hl := lv_entry ([.ref r0, .int x0, .int y1]) (n := 4) (Nat.le_of_ble_eq_true rfl)
  rw [lg_entry_eq]
  generalize (lg_sl ([.ref r0, .int x0, .int y1]) ++ List.replicate (4 - (lg_sl ([.ref r0, .int x0, .int y1])).length) Slot.unset).toArray = ls at hl ⊢
  have hl : lv_has ls 4 [(0, .ref r0), (1, .int x0), (2, .int y1)] := hl
  have hP : va_P D vwCl [(r0, .inr (3, [.ref e0, .ref z0, .ref o0, .ref t0, .int qn])), (e0, .inr (0, [.ref eh, .ref eo, .ref ev, .ref er, .int el]))] s.heap := hP
  refine lv_aload_n hx hb dX3_fade_0 rfl (lv_at hl 0 rfl) ?_
  refine lv_iload_n hx hb dX3_fade_1 rfl (lv_at hl 1 rfl) ?_
  refine cx_r (vx_runV (As := [.int x0]) (rest := []) ⟨hx, hb, hml, hown, hts⟩ (k_X3_homeOfBurning_x l hl0 D cI cZ cJ cK _ r0 x0 e0 z0 o0 t0 qn eh eo ev er el n x (hn) (hn4) (hxv) (hxr) (hxb)) (cwV 1 hts (gV qw535 qw537 qw8 qw10 qw538) rfl rfl rfl (by decide +kernel) ⟨Nat.le_of_ble_eq_true rfl, Nat.le_of_ble_eq_true rfl⟩) (pv (ci := 3) (r := (RX3, TX3, 5)) (q0 := 0) hP hD hK hT hZ hS [0, 1] rfl rfl rfl rfl) rfl rfl hl.1 rfl (lv_room (Nat.le_of_ble_eq_true rfl)) dX3_fade_2 ⟨Nat.le_of_ble_eq_true rfl, Nat.le_of_ble_eq_true rfl⟩) hS hP (fun E9 ce9 q9 H locs hE9 hP hS hq9 hv9 hc9 => ?_) (fun x_2 H locs hw_2 hP hS => ?_)
  · exact vx_out (fun x hx9 => (hext x hx9).elim) hlocks hq9 hv9 hc9 (fun t ht hW => ⟨(), trivial, hE9, hS.F ht⟩) (fun z hz => (hS.2.2 z hz).elim) (by omega) (by omega)
  refine id ?_
  exact hw_2.elim
set_option maxHeartbeats 4000000 in
set_option maxRecDepth 100000 in
theorem k_X3_fade_g (l : Launch) (hl0 : l.stackTraces = false) (D : va_G) (cI cZ cJ cK : ClassId) (hz9 : Nat) (r0 : Nat) (x0 : Int32) (y1 : Int32) (e0 : Nat) (z0 : Nat) (o0 : Nat) (t0 : Nat) (qn : Int32) (eh : Nat) (eo : Nat) (ev : Nat) (er : Nat) (el : Int32) (fo : Nat → Int32) (n x : Nat) (hn : el = iI ↑n) (hn4 : n ≤ 40) (hxv : x0 = iI ↑x) (hxn : x < n) (hfo : fo x = iI (-1)) : vx_Met l yX3_fade (ws_ yX3_fade cX3_fade 4 (Option.some .int)) ({ frames := 7, cells := 1, slots := 6, locals := 104 }) (va_Pc [.ref r0, .int x0, .int y1] (wPre D cI cZ cJ cK hz9 [(r0, .inr (3, [.ref e0, .ref z0, .ref o0, .ref t0, .int qn])), (e0, .inr (0, [.ref eh, .ref eo, .ref ev, .ref er, .int el])), (eo, .inl (cI, 40, .inl fo))])) (va_Qi (fun r (_ : Unit) => (False)) (fun _ _ => True) (fun _ => False)) (vx_X (fun (_ : Unit) => True) (fun E _ _ => E = xS) (fun _ => False)) 1 6 (fun _ => False) := by
  refine vx_ofW (cc := cX3_fade) (maxL := 4) (ret := (Option.some .int)) (by decide) rfl ?_
  intro p e s m args below meth c s₁ hBd hml hext hv
  obtain ⟨rfl, hsz, hP, hD, hK, hT, hZ⟩ := hv
  have hx := hBd.exec
  have hb := hBd.bytes
  have hr := hBd.returns
  have hts : ∀ w ∈ lw_G, w.before _ s = true := fun w h => atoms_spec (ws := (ws_ yX3_fade cX3_fade 4 (Option.some .int))) hBd.pre w (List.mem_cons_of_mem _ h)
  have hown : s.vm.findClass RX3 = some m.cls := findClass_of_methodNamed hBd.named
  have hlocks := hBd.notSynchronized
  subst hsz
  have hS : va_S (fun _ => False) s.heap s.heap [] := va_S.rf
  have hl := lv_entry ([.ref r0, .int x0, .int y1]) (n := 4) (Nat.le_of_ble_eq_true rfl)
  rw [lg_entry_eq]
  generalize (lg_sl ([.ref r0, .int x0, .int y1]) ++ List.replicate (4 - (lg_sl ([.ref r0, .int x0, .int y1])).length) Slot.unset).toArray = ls at hl ⊢
  have hl : lv_has ls 4 [(0, .ref r0), (1, .int x0), (2, .int y1)] := hl
  have hP : va_P D vwCl [(r0, .inr (3, [.ref e0, .ref z0, .ref o0, .ref t0, .int qn])), (e0, .inr (0, [.ref eh, .ref eo, .ref ev, .ref er, .int el])), (eo, .inl (cI, 40, .inl fo))] s.heap := hP
  refine lv_aload_n hx hb dX3_fade_0 rfl (lv_at hl 0 rfl) ?_
  refine lv_iload_n hx hb dX3_fade_1 rfl (lv_at hl 1 rfl) ?_
  refine cx_r (vx_runV (As := [.int x0]) (rest := []) ⟨hx, hb, hml, hown, hts⟩ (k_X3_homeOfBurning_g l hl0 D cI cZ cJ cK _ r0 x0 e0 z0 o0 t0 qn eh eo ev er el fo n x (hn) (hn4) (hxv.trans (congrArg iI (by omega))) (hxn) (hfo)) (cwV 1 hts (gV qw535 qw537 qw8 qw10 qw538) rfl rfl rfl (by decide +kernel) ⟨Nat.le_of_ble_eq_true rfl, Nat.le_of_ble_eq_true rfl⟩) (pv (ci := 3) (r := (RX3, TX3, 5)) (q0 := 0) hP hD hK hT hZ hS [0, 1, 2] rfl rfl rfl rfl) rfl rfl hl.1 rfl (lv_room (Nat.le_of_ble_eq_true rfl)) dX3_fade_2 ⟨Nat.le_of_ble_eq_true rfl, Nat.le_of_ble_eq_true rfl⟩) hS hP (fun E9 ce9 q9 H locs hE9 hP hS hq9 hv9 hc9 => ?_) (fun x_2 H locs hw_2 hP hS => ?_)
  · exact vx_out (fun x hx9 => (hext x hx9).elim) hlocks hq9 hv9 hc9 (fun t ht hW => ⟨(), trivial, hE9, hS.F ht⟩) (fun z hz => (hS.2.2 z hz).elim) (by omega) (by omega)
  refine id ?_
  exact hw_2.elim
set_option maxHeartbeats 4000000 in
set_option maxRecDepth 100000 in
theorem k_X3_quench_x (l : Launch) (hl0 : l.stackTraces = false) (D : va_G) (cI cZ cJ cK : ClassId) (hz9 : Nat) (r0 : Nat) (x0 : Int32) (e0 : Nat) (z0 : Nat) (o0 : Nat) (t0 : Nat) (qn : Int32) (eh : Nat) (eo : Nat) (ev : Nat) (er : Nat) (el : Int32) (n : Nat) (x : Int) (hn : el = iI ↑n) (hn4 : n ≤ 40) (hxv : x0 = iI x) (hxr : -2147483648 ≤ x ∧ x < 2147483648) (hxb : ¬ (0 ≤ x ∧ x < ↑n)) : vx_Met l yX3_quench (ws_ yX3_quench cX3_quench 4 (Option.some .int)) ({ frames := 8, cells := 1, slots := 6, locals := 125 }) (va_Pc [.ref r0, .int x0] (wPre D cI cZ cJ cK hz9 [(r0, .inr (3, [.ref e0, .ref z0, .ref o0, .ref t0, .int qn])), (e0, .inr (0, [.ref eh, .ref eo, .ref ev, .ref er, .int el]))])) (va_Qi (fun r (_ : Unit) => (False)) (fun _ _ => True) (fun _ => False)) (vx_X (fun (_ : Unit) => True) (fun E _ _ => E = xI) (fun _ => False)) 1 6 (fun _ => False) := by
  refine vx_ofW (cc := cX3_quench) (maxL := 4) (ret := (Option.some .int)) (by decide) rfl ?_
  intro p e s m args below meth c s₁ hBd hml hext hv
  obtain ⟨rfl, hsz, hP, hD, hK, hT, hZ⟩ := hv
  have hx := hBd.exec
  have hb := hBd.bytes
  have hr := hBd.returns
  have hts : ∀ w ∈ lw_G, w.before _ s = true := fun w h => atoms_spec (ws := (ws_ yX3_quench cX3_quench 4 (Option.some .int))) hBd.pre w (List.mem_cons_of_mem _ h)
  have hown : s.vm.findClass RX3 = some m.cls := findClass_of_methodNamed hBd.named
  have hlocks := hBd.notSynchronized
  subst hsz
  have hS : va_S (fun _ => False) s.heap s.heap [] := va_S.rf
  have hl := lv_entry ([.ref r0, .int x0]) (n := 4) (Nat.le_of_ble_eq_true rfl)
  rw [lg_entry_eq]
  generalize (lg_sl ([.ref r0, .int x0]) ++ List.replicate (4 - (lg_sl ([.ref r0, .int x0])).length) Slot.unset).toArray = ls at hl ⊢
  have hl : lv_has ls 4 [(0, .ref r0), (1, .int x0)] := hl
  have hP : va_P D vwCl [(r0, .inr (3, [.ref e0, .ref z0, .ref o0, .ref t0, .int qn])), (e0, .inr (0, [.ref eh, .ref eo, .ref ev, .ref er, .int el]))] s.heap := hP
  refine lv_aload_n hx hb dX3_quench_0 rfl (lv_at hl 0 rfl) ?_
  refine lv_iload_n hx hb dX3_quench_1 rfl (lv_at hl 1 rfl) ?_
  refine cx_r (vx_runV (As := [.int x0]) (rest := []) ⟨hx, hb, hml, hown, hts⟩ (k_X3_homeOfBurning_x l hl0 D cI cZ cJ cK _ r0 x0 e0 z0 o0 t0 qn eh eo ev er el n x (hn) (hn4) (hxv) (hxr) (hxb)) (cwV 1 hts (gV qw535 qw537 qw8 qw10 qw538) rfl rfl rfl (by decide +kernel) ⟨Nat.le_of_ble_eq_true rfl, Nat.le_of_ble_eq_true rfl⟩) (pv (ci := 3) (r := (RX3, TX3, 5)) (q0 := 0) hP hD hK hT hZ hS [0, 1] rfl rfl rfl rfl) rfl rfl hl.1 rfl (lv_room (Nat.le_of_ble_eq_true rfl)) dX3_quench_2 ⟨Nat.le_of_ble_eq_true rfl, Nat.le_of_ble_eq_true rfl⟩) hS hP (fun E9 ce9 q9 H locs hE9 hP hS hq9 hv9 hc9 => ?_) (fun x_2 H locs hw_2 hP hS => ?_)
  · exact vx_out (fun x hx9 => (hext x hx9).elim) hlocks hq9 hv9 hc9 (fun t ht hW => ⟨(), trivial, hE9, hS.F ht⟩) (fun z hz => (hS.2.2 z hz).elim) (by omega) (by omega)
  refine id ?_
  exact hw_2.elim
set_option maxHeartbeats 4000000 in
set_option maxRecDepth 100000 in
theorem k_X3_quench_g (l : Launch) (hl0 : l.stackTraces = false) (D : va_G) (cI cZ cJ cK : ClassId) (hz9 : Nat) (r0 : Nat) (x0 : Int32) (e0 : Nat) (z0 : Nat) (o0 : Nat) (t0 : Nat) (qn : Int32) (eh : Nat) (eo : Nat) (ev : Nat) (er : Nat) (el : Int32) (fo : Nat → Int32) (n x : Nat) (hn : el = iI ↑n) (hn4 : n ≤ 40) (hxv : x0 = iI ↑x) (hxn : x < n) (hfo : fo x = iI (-1)) : vx_Met l yX3_quench (ws_ yX3_quench cX3_quench 4 (Option.some .int)) ({ frames := 7, cells := 1, slots := 6, locals := 104 }) (va_Pc [.ref r0, .int x0] (wPre D cI cZ cJ cK hz9 [(r0, .inr (3, [.ref e0, .ref z0, .ref o0, .ref t0, .int qn])), (e0, .inr (0, [.ref eh, .ref eo, .ref ev, .ref er, .int el])), (eo, .inl (cI, 40, .inl fo))])) (va_Qi (fun r (_ : Unit) => (False)) (fun _ _ => True) (fun _ => False)) (vx_X (fun (_ : Unit) => True) (fun E _ _ => E = xS) (fun _ => False)) 1 6 (fun _ => False) := by
  refine vx_ofW (cc := cX3_quench) (maxL := 4) (ret := (Option.some .int)) (by decide) rfl ?_
  intro p e s m args below meth c s₁ hBd hml hext hv
  obtain ⟨rfl, hsz, hP, hD, hK, hT, hZ⟩ := hv
  have hx := hBd.exec
  have hb := hBd.bytes
  have hr := hBd.returns
  have hts : ∀ w ∈ lw_G, w.before _ s = true := fun w h => atoms_spec (ws := (ws_ yX3_quench cX3_quench 4 (Option.some .int))) hBd.pre w (List.mem_cons_of_mem _ h)
  have hown : s.vm.findClass RX3 = some m.cls := findClass_of_methodNamed hBd.named
  have hlocks := hBd.notSynchronized
  subst hsz
  have hS : va_S (fun _ => False) s.heap s.heap [] := va_S.rf
  have hl := lv_entry ([.ref r0, .int x0]) (n := 4) (Nat.le_of_ble_eq_true rfl)
  rw [lg_entry_eq]
  generalize (lg_sl ([.ref r0, .int x0]) ++ List.replicate (4 - (lg_sl ([.ref r0, .int x0])).length) Slot.unset).toArray = ls at hl ⊢
  have hl : lv_has ls 4 [(0, .ref r0), (1, .int x0)] := hl
  have hP : va_P D vwCl [(r0, .inr (3, [.ref e0, .ref z0, .ref o0, .ref t0, .int qn])), (e0, .inr (0, [.ref eh, .ref eo, .ref ev, .ref er, .int el])), (eo, .inl (cI, 40, .inl fo))] s.heap := hP
  refine lv_aload_n hx hb dX3_quench_0 rfl (lv_at hl 0 rfl) ?_
  refine lv_iload_n hx hb dX3_quench_1 rfl (lv_at hl 1 rfl) ?_
  refine cx_r (vx_runV (As := [.int x0]) (rest := []) ⟨hx, hb, hml, hown, hts⟩ (k_X3_homeOfBurning_g l hl0 D cI cZ cJ cK _ r0 x0 e0 z0 o0 t0 qn eh eo ev er el fo n x (hn) (hn4) (hxv.trans (congrArg iI (by omega))) (hxn) (hfo)) (cwV 1 hts (gV qw535 qw537 qw8 qw10 qw538) rfl rfl rfl (by decide +kernel) ⟨Nat.le_of_ble_eq_true rfl, Nat.le_of_ble_eq_true rfl⟩) (pv (ci := 3) (r := (RX3, TX3, 5)) (q0 := 0) hP hD hK hT hZ hS [0, 1, 2] rfl rfl rfl rfl) rfl rfl hl.1 rfl (lv_room (Nat.le_of_ble_eq_true rfl)) dX3_quench_2 ⟨Nat.le_of_ble_eq_true rfl, Nat.le_of_ble_eq_true rfl⟩) hS hP (fun E9 ce9 q9 H locs hE9 hP hS hq9 hv9 hc9 => ?_) (fun x_2 H locs hw_2 hP hS => ?_)
  · exact vx_out (fun x hx9 => (hext x hx9).elim) hlocks hq9 hv9 hc9 (fun t ht hW => ⟨(), trivial, hE9, hS.F ht⟩) (fun z hz => (hS.2.2 z hz).elim) (by omega) (by omega)
  refine id ?_
  exact hw_2.elim
set_option maxHeartbeats 4000000 in
set_option maxRecDepth 100000 in
theorem k_X3_told_x (l : Launch) (hl0 : l.stackTraces = false) (D : va_G) (cI cZ cJ cK : ClassId) (hz9 : Nat) (r0 : Nat) (x0 : Int32) (y1 : Int32) (e0 : Nat) (z0 : Nat) (o0 : Nat) (t0 : Nat) (qn : Int32) (eh : Nat) (eo : Nat) (ev : Nat) (er : Nat) (el : Int32) (n : Nat) (x : Int) (hn : el = iI ↑n) (hn4 : n ≤ 40) (hxv : x0 = iI x) (hxr : -2147483648 ≤ x ∧ x < 2147483648) (hxb : ¬ (0 ≤ x ∧ x < ↑n)) : vx_Met l yX3_told (ws_ yX3_told cX3_told 3 (Option.some .int)) ({ frames := 7, cells := 1, slots := 6, locals := 103 }) (va_Pc [.ref r0, .int x0, .int y1] (wPre D cI cZ cJ cK hz9 [(r0, .inr (3, [.ref e0, .ref z0, .ref o0, .ref t0, .int qn])), (e0, .inr (0, [.ref eh, .ref eo, .ref ev, .ref er, .int el]))])) (va_Qi (fun r (_ : Unit) => (False)) (fun _ _ => True) (fun _ => False)) (vx_X (fun (_ : Unit) => True) (fun E _ _ => E = xI) (fun _ => False)) 1 6 (fun _ => False) := by
  refine vx_ofW (cc := cX3_told) (maxL := 3) (ret := (Option.some .int)) (by decide) rfl ?_
  intro p e s m args below meth c s₁ hBd hml hext hv
  obtain ⟨rfl, hsz, hP, hD, hK, hT, hZ⟩ := hv
  have hx := hBd.exec
  have hb := hBd.bytes
  have hr := hBd.returns
  have hts : ∀ w ∈ lw_G, w.before _ s = true := fun w h => atoms_spec (ws := (ws_ yX3_told cX3_told 3 (Option.some .int))) hBd.pre w (List.mem_cons_of_mem _ h)
  have hown : s.vm.findClass RX3 = some m.cls := findClass_of_methodNamed hBd.named
  have hlocks := hBd.notSynchronized
  subst hsz
  have hS : va_S (fun _ => False) s.heap s.heap [] := va_S.rf
  have hl := lv_entry ([.ref r0, .int x0, .int y1]) (n := 3) (Nat.le_of_ble_eq_true rfl)
  rw [lg_entry_eq]
  generalize (lg_sl ([.ref r0, .int x0, .int y1]) ++ List.replicate (3 - (lg_sl ([.ref r0, .int x0, .int y1])).length) Slot.unset).toArray = ls at hl ⊢
  have hl : lv_has ls 3 [(0, .ref r0), (1, .int x0), (2, .int y1)] := hl
  have hP : va_P D vwCl [(r0, .inr (3, [.ref e0, .ref z0, .ref o0, .ref t0, .int qn])), (e0, .inr (0, [.ref eh, .ref eo, .ref ev, .ref er, .int el]))] s.heap := hP
  refine lv_aload_n hx hb dX3_told_0 rfl (lv_at hl 0 rfl) ?_
  refine lv_iload_n hx hb dX3_told_1 rfl (lv_at hl 1 rfl) ?_
  refine cx_v (vx_runV (As := [.int x0]) (rest := []) ⟨hx, hb, hml, hown, hts⟩ (k_X3_refuseUnlit_x l hl0 D cI cZ cJ cK _ r0 x0 e0 z0 o0 t0 qn eh eo ev er el n x (hn) (hn4) (hxv) (hxr) (hxb)) (cwV 1 hts (gV qw373 qw375 qw5 qw10 qw376) rfl rfl rfl (by decide +kernel) ⟨Nat.le_of_ble_eq_true rfl, Nat.le_of_ble_eq_true rfl⟩) (pv (ci := 3) (r := (RX3, TX3, 5)) (q0 := 0) hP hD hK hT hZ hS [0, 1] rfl rfl rfl rfl) rfl rfl hl.1 rfl (lv_room (Nat.le_of_ble_eq_true rfl)) dX3_told_2 ⟨Nat.le_of_ble_eq_true rfl, Nat.le_of_ble_eq_true rfl⟩) hS hP (fun E9 ce9 q9 H locs hE9 hP hS hq9 hv9 hc9 => ?_) (fun H locs hw_2 hP hS => ?_)
  · exact vx_out (fun x hx9 => (hext x hx9).elim) hlocks hq9 hv9 hc9 (fun t ht hW => ⟨(), trivial, hE9, hS.F ht⟩) (fun z hz => (hS.2.2 z hz).elim) (by omega) (by omega)
  refine id ?_
  exact hw_2.elim
