set_option maxHeartbeats 4000000 in
set_option maxRecDepth 100000 in
theorem k_X0_lit (l : Launch) (D : va_G) (cI cZ cJ cK : ClassId) (hz9 : Nat) (e0 : Nat) (eh : Nat) (eo : Nat) (ev : Nat) (er : Nat) (el : Int32)   : Met l yX0_lit (ws_ yX0_lit cX0_lit 1 (Option.some .int)) ({ frames := 0, cells := 0, slots := 0, locals := 0 }) (va_Pc [.ref e0] (wPre D cI cZ cJ cK hz9 [(e0, .inr (0, [.ref eh, .ref eo, .ref ev, .ref er, .int el]))])) (va_Qi (fun r (_ : Unit) => (r = el)) (fun _ _ => True) (fun _ => False)) 0 0 (fun _ => False) := by
  refine Met.ofW (cc := cX0_lit) (maxL := 1) (ret := (Option.some .int)) (by decide) rfl ?_
  intro p e s m args below meth c s₁ hBd hml hv
  obtain ⟨rfl, hsz, hP, hD, hK, hT, hZ⟩ := hv
  have hx := hBd.exec
  have hb := hBd.bytes
  have hr := hBd.returns
  have hts : ∀ w ∈ lw_G, w.before _ s = true := fun w h => atoms_spec (ws := (ws_ yX0_lit cX0_lit 1 (Option.some .int))) hBd.pre w (List.mem_cons_of_mem _ h)
  have hown : s.vm.findClass RX0 = some m.cls := findClass_of_methodNamed hBd.named
  have hlocks := hBd.notSynchronized
  subst hsz
  have hS : va_S (fun _ => False) s.heap s.heap [] := va_S.rf
  have hl := lv_entry ([.ref e0]) (n := 1) (Nat.le_of_ble_eq_true rfl)
  rw [lg_entry_eq]
  generalize (lg_sl ([.ref e0]) ++ List.replicate (1 - (lg_sl ([.ref e0])).length) Slot.unset).toArray = ls at hl ⊢
  have hl : lv_has ls 1 [(0, .ref e0)] := hl
  have hP : va_P D vwCl [(e0, .inr (0, [.ref eh, .ref eo, .ref ev, .ref er, .int el]))] s.heap := hP
  refine lv_aload_n hx hb dX0_lit_0 rfl (lv_at hl 0 rfl) ?_
  refine va_get (D := D) (ci := 0) (v := .int el) (C := RX0) (T := TX0) (N := 5) hx hb hts iX0 hown hK hP 0 rfl rfl 4 (by decide) (hts _ qw41) (fun _ h9 => h9) rfl dX0_lit_1 ?_
  exact W.iret (v := el) hx hb hr (fun t ht hW => ⟨⟨el, (), rfl, rfl, trivial⟩, hS.F ht⟩) hS.2.2 dX0_lit_4
set_option maxHeartbeats 4000000 in
set_option maxRecDepth 100000 in
theorem k_X0_has (l : Launch) (D : va_G) (cI cZ cJ cK : ClassId) (hz9 : Nat) (e0 : Nat) (x0 : Int32) (eh : Nat) (eo : Nat) (ev : Nat) (er : Nat) (el : Int32) (n : Nat) (x : Int) (hn : el = iI ↑n) (hn4 : n ≤ 40) (hxv : x0 = iI x) (hxr : -2147483648 ≤ x ∧ x < 2147483648) : Met l yX0_has (ws_ yX0_has cX0_has 2 (Option.some .boolean)) ({ frames := 0, cells := 0, slots := 0, locals := 0 }) (va_Pc [.ref e0, .int x0] (wPre D cI cZ cJ cK hz9 [(e0, .inr (0, [.ref eh, .ref eo, .ref ev, .ref er, .int el]))])) (va_Qi (fun r (_ : Unit) => (r = iI (if (0 : Int) ≤ x ∧ x < (↑n : Int) then 1 else 0))) (fun _ _ => True) (fun _ => False)) 0 0 (fun _ => False) := by
  refine Met.ofW (cc := cX0_has) (maxL := 2) (ret := (Option.some .boolean)) (by decide) rfl ?_
  intro p e s m args below meth c s₁ hBd hml hv
  obtain ⟨rfl, hsz, hP, hD, hK, hT, hZ⟩ := hv
  have hx := hBd.exec
  have hb := hBd.bytes
  have hr := hBd.returns
  have hts : ∀ w ∈ lw_G, w.before _ s = true := fun w h => atoms_spec (ws := (ws_ yX0_has cX0_has 2 (Option.some .boolean))) hBd.pre w (List.mem_cons_of_mem _ h)
  have hown : s.vm.findClass RX0 = some m.cls := findClass_of_methodNamed hBd.named
  have hlocks := hBd.notSynchronized
  subst hsz
  have hS : va_S (fun _ => False) s.heap s.heap [] := va_S.rf
  have hl := lv_entry ([.ref e0, .int x0]) (n := 2) (Nat.le_of_ble_eq_true rfl)
  rw [lg_entry_eq]
  generalize (lg_sl ([.ref e0, .int x0]) ++ List.replicate (2 - (lg_sl ([.ref e0, .int x0])).length) Slot.unset).toArray = ls at hl ⊢
  have hl : lv_has ls 2 [(0, .ref e0), (1, .int x0)] := hl
  have hP : va_P D vwCl [(e0, .inr (0, [.ref eh, .ref eo, .ref ev, .ref er, .int el]))] s.heap := hP
  refine lv_iload_n hx hb dX0_has_0 rfl (lv_at hl 1 rfl) ?_
  refine lz_if_lt (tgt := 16) hx hb hxv (by omega) dX0_has_1 (by decide) (fun c_1 => ?_) (fun c_1 => ?_)
  · refine lz_iconst hx hb dX0_has_16 (fun x_16 v_16 => ?_)
    exact W.zret (v := x_16) (ty := .boolean) hx hb hr (by rw [v_16]; decide) (fun t ht hW => ⟨⟨x_16, (), rfl, v_16.trans (congrArg iI (by omega)), trivial⟩, hS.F ht⟩) hS.2.2 dX0_has_17
  · refine lv_iload_n hx hb dX0_has_4 rfl (lv_at hl 1 rfl) ?_
    refine lv_aload_n hx hb dX0_has_5 rfl (lv_at hl 0 rfl) ?_
    refine va_get (D := D) (ci := 0) (v := .int el) (C := RX0) (T := TX0) (N := 5) hx hb hts iX0 hown hK hP 0 rfl rfl 4 (by decide) (hts _ qw41) (fun _ h9 => h9) rfl dX0_has_6 ?_
    refine lz_icmp_ge (tgt := 16) hx hb hxv hn ⟨by omega, by omega⟩ dX0_has_9 (by decide) (fun c_9 => ?_) (fun c_9 => ?_)
    · refine lz_iconst hx hb dX0_has_16 (fun x_16 v_16 => ?_)
      exact W.zret (v := x_16) (ty := .boolean) hx hb hr (by rw [v_16]; decide) (fun t ht hW => ⟨⟨x_16, (), rfl, v_16.trans (congrArg iI (by omega)), trivial⟩, hS.F ht⟩) hS.2.2 dX0_has_17
    · refine lz_iconst hx hb dX0_has_12 (fun x_12 v_12 => ?_)
      refine lv_goto (tgt := 17) hx hb dX0_has_13 (by decide) ?_
      exact W.zret (v := x_12) (ty := .boolean) hx hb hr (by rw [v_12]; decide) (fun t ht hW => ⟨⟨x_12, (), rfl, v_12.trans (congrArg iI (by omega)), trivial⟩, hS.F ht⟩) hS.2.2 dX0_has_17
set_option maxHeartbeats 4000000 in
set_option maxRecDepth 100000 in
theorem k_X0_heatOf (l : Launch) (D : va_G) (cI cZ cJ cK : ClassId) (hz9 : Nat) (e0 : Nat) (x0 : Int32) (eh : Nat) (eo : Nat) (ev : Nat) (er : Nat) (el : Int32) (fh : Nat → Int32) (n x : Nat) (hn : el = iI ↑n) (hn4 : n ≤ 40) (hxv : x0 = iI ↑x) (hxn : x < n) : Met l yX0_heatOf (ws_ yX0_heatOf cX0_heatOf 2 (Option.some .int)) ({ frames := 1, cells := 0, slots := 0, locals := 21 }) (va_Pc [.ref e0, .int x0] (wPre D cI cZ cJ cK hz9 [(e0, .inr (0, [.ref eh, .ref eo, .ref ev, .ref er, .int el])), (eh, .inl (cI, 40, .inl fh))])) (va_Qi (fun r (_ : Unit) => (r = fh x)) (fun _ _ => True) (fun _ => False)) 0 0 (fun _ => False) := by
  refine Met.ofW (cc := cX0_heatOf) (maxL := 2) (ret := (Option.some .int)) (by decide) rfl ?_
  intro p e s m args below meth c s₁ hBd hml hv
  obtain ⟨rfl, hsz, hP, hD, hK, hT, hZ⟩ := hv
  have hx := hBd.exec
  have hb := hBd.bytes
  have hr := hBd.returns
  have hts : ∀ w ∈ lw_G, w.before _ s = true := fun w h => atoms_spec (ws := (ws_ yX0_heatOf cX0_heatOf 2 (Option.some .int))) hBd.pre w (List.mem_cons_of_mem _ h)
  have hown : s.vm.findClass RX0 = some m.cls := findClass_of_methodNamed hBd.named
  have hlocks := hBd.notSynchronized
  subst hsz
  have hS : va_S (fun _ => False) s.heap s.heap [] := va_S.rf
  have hl := lv_entry ([.ref e0, .int x0]) (n := 2) (Nat.le_of_ble_eq_true rfl)
  rw [lg_entry_eq]
  generalize (lg_sl ([.ref e0, .int x0]) ++ List.replicate (2 - (lg_sl ([.ref e0, .int x0])).length) Slot.unset).toArray = ls at hl ⊢
  have hl : lv_has ls 2 [(0, .ref e0), (1, .int x0)] := hl
  have hP : va_P D vwCl [(e0, .inr (0, [.ref eh, .ref eo, .ref ev, .ref er, .int el])), (eh, .inl (cI, 40, .inl fh))] s.heap := hP
  refine lv_aload_n hx hb dX0_heatOf_0 rfl (lv_at hl 0 rfl) ?_
  refine lv_iload_n hx hb dX0_heatOf_1 rfl (lv_at hl 1 rfl) ?_
  refine cr_i (va_runV (As := [.int x0]) (rest := []) ⟨hx, hb, hml, hown, hts⟩ (k_X0_has l D cI cZ cJ cK _ e0 x0 eh eo ev er el n (↑x) (hn) (hn4) (hxv) (by omega)) (cwV 1 hts (gV qw239 qw240 qw241 qw11 qw242) rfl rfl rfl (by decide +kernel) ⟨Nat.le_of_ble_eq_true rfl, Nat.le_of_ble_eq_true rfl⟩) (pv (ci := 0) (r := (RX0, TX0, 5)) (q0 := 0) hP hD hK hT hZ hS [0] rfl rfl rfl rfl) rfl rfl hl.1 rfl (lv_room (Nat.le_of_ble_eq_true rfl)) dX0_heatOf_2 ⟨Nat.le_of_ble_eq_true rfl, Nat.le_of_ble_eq_true rfl⟩) hS hP (fun x_2 H locs hw_2 hP hS => ?_)
  have hw_2 : (x_2 = iI (if (0 : Int) ≤ (↑x) ∧ (↑x) < (↑n : Int) then 1 else 0)) := hw_2
  have v_2 := hw_2
  refine lz_if_eq (tgt := 17) hx hb v_2 (by omega) dX0_heatOf_5 (by decide) (fun c_5 => ?_) (fun c_5 => ?_)
  · exfalso; omega
  · refine lv_aload_n hx hb dX0_heatOf_8 rfl (lv_at hl 0 rfl) ?_
    refine va_get (D := D) (ci := 0) (v := .ref eh) (C := RX0) (T := TX0) (N := 5) hx hb hts iX0 hown hK hP 0 rfl rfl 0 (by decide) (hts _ qw37) (fun _ h9 => h9) rfl dX0_heatOf_9 ?_
    refine lv_iload_n hx hb dX0_heatOf_12 rfl (lv_at hl 1 rfl) ?_
    refine lz_iald hx hb hK hP 1 0 rfl rfl hxv (x) (by omega) (by omega) (by decide) dX0_heatOf_13 (fun x_13 e_13 => ?_)
    refine lv_goto (tgt := 18) hx hb dX0_heatOf_14 (by decide) ?_
    exact W.iret (v := x_13) hx hb hr (fun t ht hW => ⟨⟨x_13, (), rfl, e_13, trivial⟩, hS.F ht⟩) hS.2.2 dX0_heatOf_18
set_option maxHeartbeats 4000000 in
set_option maxRecDepth 100000 in
theorem k_X0_homeOf (l : Launch) (D : va_G) (cI cZ cJ cK : ClassId) (hz9 : Nat) (e0 : Nat) (x0 : Int32) (eh : Nat) (eo : Nat) (ev : Nat) (er : Nat) (el : Int32) (fo : Nat → Int32) (n x : Nat) (hn : el = iI ↑n) (hn4 : n ≤ 40) (hxv : x0 = iI ↑x) (hxn : x < n) : Met l yX0_homeOf (ws_ yX0_homeOf cX0_homeOf 2 (Option.some .int)) ({ frames := 1, cells := 0, slots := 0, locals := 21 }) (va_Pc [.ref e0, .int x0] (wPre D cI cZ cJ cK hz9 [(e0, .inr (0, [.ref eh, .ref eo, .ref ev, .ref er, .int el])), (eo, .inl (cI, 40, .inl fo))])) (va_Qi (fun r (_ : Unit) => (r = fo x)) (fun _ _ => True) (fun _ => False)) 0 0 (fun _ => False) := by
  refine Met.ofW (cc := cX0_homeOf) (maxL := 2) (ret := (Option.some .int)) (by decide) rfl ?_
  intro p e s m args below meth c s₁ hBd hml hv
  obtain ⟨rfl, hsz, hP, hD, hK, hT, hZ⟩ := hv
  have hx := hBd.exec
  have hb := hBd.bytes
  have hr := hBd.returns
  have hts : ∀ w ∈ lw_G, w.before _ s = true := fun w h => atoms_spec (ws := (ws_ yX0_homeOf cX0_homeOf 2 (Option.some .int))) hBd.pre w (List.mem_cons_of_mem _ h)
  have hown : s.vm.findClass RX0 = some m.cls := findClass_of_methodNamed hBd.named
  have hlocks := hBd.notSynchronized
  subst hsz
  have hS : va_S (fun _ => False) s.heap s.heap [] := va_S.rf
  have hl := lv_entry ([.ref e0, .int x0]) (n := 2) (Nat.le_of_ble_eq_true rfl)
  rw [lg_entry_eq]
  generalize (lg_sl ([.ref e0, .int x0]) ++ List.replicate (2 - (lg_sl ([.ref e0, .int x0])).length) Slot.unset).toArray = ls at hl ⊢
  have hl : lv_has ls 2 [(0, .ref e0), (1, .int x0)] := hl
  have hP : va_P D vwCl [(e0, .inr (0, [.ref eh, .ref eo, .ref ev, .ref er, .int el])), (eo, .inl (cI, 40, .inl fo))] s.heap := hP
  refine lv_aload_n hx hb dX0_homeOf_0 rfl (lv_at hl 0 rfl) ?_
  refine lv_iload_n hx hb dX0_homeOf_1 rfl (lv_at hl 1 rfl) ?_
  refine cr_i (va_runV (As := [.int x0]) (rest := []) ⟨hx, hb, hml, hown, hts⟩ (k_X0_has l D cI cZ cJ cK _ e0 x0 eh eo ev er el n (↑x) (hn) (hn4) (hxv) (by omega)) (cwV 1 hts (gV qw239 qw240 qw241 qw11 qw242) rfl rfl rfl (by decide +kernel) ⟨Nat.le_of_ble_eq_true rfl, Nat.le_of_ble_eq_true rfl⟩) (pv (ci := 0) (r := (RX0, TX0, 5)) (q0 := 0) hP hD hK hT hZ hS [0] rfl rfl rfl rfl) rfl rfl hl.1 rfl (lv_room (Nat.le_of_ble_eq_true rfl)) dX0_homeOf_2 ⟨Nat.le_of_ble_eq_true rfl, Nat.le_of_ble_eq_true rfl⟩) hS hP (fun x_2 H locs hw_2 hP hS => ?_)
  have hw_2 : (x_2 = iI (if (0 : Int) ≤ (↑x) ∧ (↑x) < (↑n : Int) then 1 else 0)) := hw_2
  have v_2 := hw_2
  refine lz_if_eq (tgt := 17) hx hb v_2 (by omega) dX0_homeOf_5 (by decide) (fun c_5 => ?_) (fun c_5 => ?_)
  · exfalso; omega
  · refine lv_aload_n hx hb dX0_homeOf_8 rfl (lv_at hl 0 rfl) ?_
    refine va_get (D := D) (ci := 0) (v := .ref eo) (C := RX0) (T := TX0) (N := 5) hx hb hts iX0 hown hK hP 0 rfl rfl 1 (by decide) (hts _ qw38) (fun _ h9 => h9) rfl dX0_homeOf_9 ?_
    refine lv_iload_n hx hb dX0_homeOf_12 rfl (lv_at hl 1 rfl) ?_
    refine lz_iald hx hb hK hP 1 0 rfl rfl hxv (x) (by omega) (by omega) (by decide) dX0_homeOf_13 (fun x_13 e_13 => ?_)
    refine lv_goto (tgt := 18) hx hb dX0_homeOf_14 (by decide) ?_
    exact W.iret (v := x_13) hx hb hr (fun t ht hW => ⟨⟨x_13, (), rfl, e_13, trivial⟩, hS.F ht⟩) hS.2.2 dX0_homeOf_18
set_option maxHeartbeats 4000000 in
set_option maxRecDepth 100000 in
theorem k_X0_movedOf (l : Launch) (D : va_G) (cI cZ cJ cK : ClassId) (hz9 : Nat) (e0 : Nat) (x0 : Int32) (eh : Nat) (eo : Nat) (ev : Nat) (er : Nat) (el : Int32) (fm : Nat → Int32) (n x : Nat) (hn : el = iI ↑n) (hn4 : n ≤ 40) (hxv : x0 = iI ↑x) (hxn : x < n) : Met l yX0_movedOf (ws_ yX0_movedOf cX0_movedOf 2 (Option.some .int)) ({ frames := 1, cells := 0, slots := 0, locals := 21 }) (va_Pc [.ref e0, .int x0] (wPre D cI cZ cJ cK hz9 [(e0, .inr (0, [.ref eh, .ref eo, .ref ev, .ref er, .int el])), (ev, .inl (cI, 40, .inl fm))])) (va_Qi (fun r (_ : Unit) => (r = fm x)) (fun _ _ => True) (fun _ => False)) 0 0 (fun _ => False) := by
  refine Met.ofW (cc := cX0_movedOf) (maxL := 2) (ret := (Option.some .int)) (by decide) rfl ?_
  intro p e s m args below meth c s₁ hBd hml hv
  obtain ⟨rfl, hsz, hP, hD, hK, hT, hZ⟩ := hv
  have hx := hBd.exec
  have hb := hBd.bytes
  have hr := hBd.returns
  have hts : ∀ w ∈ lw_G, w.before _ s = true := fun w h => atoms_spec (ws := (ws_ yX0_movedOf cX0_movedOf 2 (Option.some .int))) hBd.pre w (List.mem_cons_of_mem _ h)
  have hown : s.vm.findClass RX0 = some m.cls := findClass_of_methodNamed hBd.named
  have hlocks := hBd.notSynchronized
  subst hsz
  have hS : va_S (fun _ => False) s.heap s.heap [] := va_S.rf
  have hl := lv_entry ([.ref e0, .int x0]) (n := 2) (Nat.le_of_ble_eq_true rfl)
  rw [lg_entry_eq]
  generalize (lg_sl ([.ref e0, .int x0]) ++ List.replicate (2 - (lg_sl ([.ref e0, .int x0])).length) Slot.unset).toArray = ls at hl ⊢
  have hl : lv_has ls 2 [(0, .ref e0), (1, .int x0)] := hl
  have hP : va_P D vwCl [(e0, .inr (0, [.ref eh, .ref eo, .ref ev, .ref er, .int el])), (ev, .inl (cI, 40, .inl fm))] s.heap := hP
  refine lv_aload_n hx hb dX0_movedOf_0 rfl (lv_at hl 0 rfl) ?_
  refine lv_iload_n hx hb dX0_movedOf_1 rfl (lv_at hl 1 rfl) ?_
  refine cr_i (va_runV (As := [.int x0]) (rest := []) ⟨hx, hb, hml, hown, hts⟩ (k_X0_has l D cI cZ cJ cK _ e0 x0 eh eo ev er el n (↑x) (hn) (hn4) (hxv) (by omega)) (cwV 1 hts (gV qw239 qw240 qw241 qw11 qw242) rfl rfl rfl (by decide +kernel) ⟨Nat.le_of_ble_eq_true rfl, Nat.le_of_ble_eq_true rfl⟩) (pv (ci := 0) (r := (RX0, TX0, 5)) (q0 := 0) hP hD hK hT hZ hS [0] rfl rfl rfl rfl) rfl rfl hl.1 rfl (lv_room (Nat.le_of_ble_eq_true rfl)) dX0_movedOf_2 ⟨Nat.le_of_ble_eq_true rfl, Nat.le_of_ble_eq_true rfl⟩) hS hP (fun x_2 H locs hw_2 hP hS => ?_)
  have hw_2 : (x_2 = iI (if (0 : Int) ≤ (↑x) ∧ (↑x) < (↑n : Int) then 1 else 0)) := hw_2
  have v_2 := hw_2
  refine lz_if_eq (tgt := 17) hx hb v_2 (by omega) dX0_movedOf_5 (by decide) (fun c_5 => ?_) (fun c_5 => ?_)
  · exfalso; omega
  · refine lv_aload_n hx hb dX0_movedOf_8 rfl (lv_at hl 0 rfl) ?_
    refine va_get (D := D) (ci := 0) (v := .ref ev) (C := RX0) (T := TX0) (N := 5) hx hb hts iX0 hown hK hP 0 rfl rfl 2 (by decide) (hts _ qw39) (fun _ h9 => h9) rfl dX0_movedOf_9 ?_
    refine lv_iload_n hx hb dX0_movedOf_12 rfl (lv_at hl 1 rfl) ?_
    refine lz_iald hx hb hK hP 1 0 rfl rfl hxv (x) (by omega) (by omega) (by decide) dX0_movedOf_13 (fun x_13 e_13 => ?_)
    refine lv_goto (tgt := 18) hx hb dX0_movedOf_14 (by decide) ?_
    exact W.iret (v := x_13) hx hb hr (fun t ht hW => ⟨⟨x_13, (), rfl, e_13, trivial⟩, hS.F ht⟩) hS.2.2 dX0_movedOf_18
set_option maxHeartbeats 4000000 in
set_option maxRecDepth 100000 in
theorem k_X0_isRaked (l : Launch) (D : va_G) (cI cZ cJ cK : ClassId) (hz9 : Nat) (e0 : Nat) (x0 : Int32) (eh : Nat) (eo : Nat) (ev : Nat) (er : Nat) (el : Int32) (fr : Nat → Int32) (n x : Nat) (b : Int) (hn : el = iI ↑n) (hn4 : n ≤ 40) (hxv : x0 = iI ↑x) (hxn : x < n) (hb1 : fr x = iI b) (hb2 : b = 0 ∨ b = 1) : Met l yX0_isRaked (ws_ yX0_isRaked cX0_isRaked 2 (Option.some .boolean)) ({ frames := 1, cells := 0, slots := 0, locals := 21 }) (va_Pc [.ref e0, .int x0] (wPre D cI cZ cJ cK hz9 [(e0, .inr (0, [.ref eh, .ref eo, .ref ev, .ref er, .int el])), (er, .inl (cZ, 40, .inl fr))])) (va_Qi (fun r (_ : Unit) => (r = iI (b))) (fun _ _ => True) (fun _ => False)) 0 0 (fun _ => False) := by
  refine Met.ofW (cc := cX0_isRaked) (maxL := 2) (ret := (Option.some .boolean)) (by decide) rfl ?_
  intro p e s m args below meth c s₁ hBd hml hv
  obtain ⟨rfl, hsz, hP, hD, hK, hT, hZ⟩ := hv
  have hx := hBd.exec
  have hb := hBd.bytes
  have hr := hBd.returns
  have hts : ∀ w ∈ lw_G, w.before _ s = true := fun w h => atoms_spec (ws := (ws_ yX0_isRaked cX0_isRaked 2 (Option.some .boolean))) hBd.pre w (List.mem_cons_of_mem _ h)
  have hown : s.vm.findClass RX0 = some m.cls := findClass_of_methodNamed hBd.named
  have hlocks := hBd.notSynchronized
  subst hsz
  have hS : va_S (fun _ => False) s.heap s.heap [] := va_S.rf
  have hl := lv_entry ([.ref e0, .int x0]) (n := 2) (Nat.le_of_ble_eq_true rfl)
  rw [lg_entry_eq]
  generalize (lg_sl ([.ref e0, .int x0]) ++ List.replicate (2 - (lg_sl ([.ref e0, .int x0])).length) Slot.unset).toArray = ls at hl ⊢
  have hl : lv_has ls 2 [(0, .ref e0), (1, .int x0)] := hl
  have hP : va_P D vwCl [(e0, .inr (0, [.ref eh, .ref eo, .ref ev, .ref er, .int el])), (er, .inl (cZ, 40, .inl fr))] s.heap := hP
  refine lv_aload_n hx hb dX0_isRaked_0 rfl (lv_at hl 0 rfl) ?_
  refine lv_iload_n hx hb dX0_isRaked_1 rfl (lv_at hl 1 rfl) ?_
  refine cr_i (va_runV (As := [.int x0]) (rest := []) ⟨hx, hb, hml, hown, hts⟩ (k_X0_has l D cI cZ cJ cK _ e0 x0 eh eo ev er el n (↑x) (hn) (hn4) (hxv) (by omega)) (cwV 1 hts (gV qw239 qw240 qw241 qw11 qw242) rfl rfl rfl (by decide +kernel) ⟨Nat.le_of_ble_eq_true rfl, Nat.le_of_ble_eq_true rfl⟩) (pv (ci := 0) (r := (RX0, TX0, 5)) (q0 := 0) hP hD hK hT hZ hS [0] rfl rfl rfl rfl) rfl rfl hl.1 rfl (lv_room (Nat.le_of_ble_eq_true rfl)) dX0_isRaked_2 ⟨Nat.le_of_ble_eq_true rfl, Nat.le_of_ble_eq_true rfl⟩) hS hP (fun x_2 H locs hw_2 hP hS => ?_)
  have hw_2 : (x_2 = iI (if (0 : Int) ≤ (↑x) ∧ (↑x) < (↑n : Int) then 1 else 0)) := hw_2
  have v_2 := hw_2
  refine lz_if_eq (tgt := 21) hx hb v_2 (by omega) dX0_isRaked_5 (by decide) (fun c_5 => ?_) (fun c_5 => ?_)
  · exfalso; omega
  · refine lv_aload_n hx hb dX0_isRaked_8 rfl (lv_at hl 0 rfl) ?_
    refine va_get (D := D) (ci := 0) (v := .ref er) (C := RX0) (T := TX0) (N := 5) hx hb hts iX0 hown hK hP 0 rfl rfl 3 (by decide) (hts _ qw40) (fun _ h9 => h9) rfl dX0_isRaked_9 ?_
    refine lv_iload_n hx hb dX0_isRaked_12 rfl (lv_at hl 1 rfl) ?_
    refine lz_zald hx hb hK hP 1 1 rfl rfl hxv (x) (by omega) (by omega) (by decide) dX0_isRaked_13 (fun x_13 e_13 => ?_)
    have v_13 : x_13 = iI (b) := e_13.trans (hb1)
    refine lz_if_eq (tgt := 21) hx hb v_13 (by omega) dX0_isRaked_14 (by decide) (fun c_14 => ?_) (fun c_14 => ?_)
    · refine lz_iconst hx hb dX0_isRaked_21 (fun x_21 v_21 => ?_)
      exact W.zret (v := x_21) (ty := .boolean) hx hb hr (by rw [v_21]; decide) (fun t ht hW => ⟨⟨x_21, (), rfl, v_21.trans (congrArg iI (by omega)), trivial⟩, hS.F ht⟩) hS.2.2 dX0_isRaked_22
    · refine lz_iconst hx hb dX0_isRaked_17 (fun x_17 v_17 => ?_)
      refine lv_goto (tgt := 22) hx hb dX0_isRaked_18 (by decide) ?_
      exact W.zret (v := x_17) (ty := .boolean) hx hb hr (by rw [v_17]; decide) (fun t ht hW => ⟨⟨x_17, (), rfl, v_17.trans (congrArg iI (by omega)), trivial⟩, hS.F ht⟩) hS.2.2 dX0_isRaked_22
set_option maxHeartbeats 4000000 in
set_option maxRecDepth 100000 in
theorem k_X0_setHeat (l : Launch) (D : va_G) (cI cZ cJ cK : ClassId) (hz9 : Nat) (e0 : Nat) (x0 : Int32) (y0 : Int32) (eh : Nat) (eo : Nat) (ev : Nat) (er : Nat) (el : Int32) (fh : Nat → Int32) (n x : Nat) (hn : el = iI ↑n) (hn4 : n ≤ 40) (hxv : x0 = iI ↑x) (hxn : x < n) : Met l yX0_setHeat (ws_ yX0_setHeat cX0_setHeat 3 (Option.none : Option Jvm.ClassFile.FieldType)) ({ frames := 1, cells := 0, slots := 0, locals := 21 }) (va_Pc [.ref e0, .int x0, .int y0] (wPre D cI cZ cJ cK hz9 [(e0, .inr (0, [.ref eh, .ref eo, .ref ev, .ref er, .int el])), (eh, .inl (cI, 40, .inl fh))])) (va_Qv (fun (u : (Nat → Int32)) => (u = upd fh x y0)) (fun (u : (Nat → Int32)) t => wPost D (va_A [(e0, .inr (0, [.ref eh, .ref eo, .ref ev, .ref er, .int el])), (eh, .inl (cI, 40, .inl fh))] hz9) [(e0, .inr (0, [.ref eh, .ref eo, .ref ev, .ref er, .int el])), (eh, .inl (cI, 40, .inl u))] t) (va_A [(e0, .inr (0, [.ref eh, .ref eo, .ref ev, .ref er, .int el])), (eh, .inl (cI, 40, .inl fh))] hz9)) 0 0 (va_A [(e0, .inr (0, [.ref eh, .ref eo, .ref ev, .ref er, .int el])), (eh, .inl (cI, 40, .inl fh))] hz9) := by
  refine Met.ofW (cc := cX0_setHeat) (maxL := 3) (ret := (Option.none : Option Jvm.ClassFile.FieldType)) (by decide) rfl ?_
  intro p e s m args below meth c s₁ hBd hml hv
  obtain ⟨rfl, hsz, hP, hD, hK, hT, hZ⟩ := hv
  have hx := hBd.exec
  have hb := hBd.bytes
  have hr := hBd.returns
  have hts : ∀ w ∈ lw_G, w.before _ s = true := fun w h => atoms_spec (ws := (ws_ yX0_setHeat cX0_setHeat 3 (Option.none : Option Jvm.ClassFile.FieldType))) hBd.pre w (List.mem_cons_of_mem _ h)
  have hown : s.vm.findClass RX0 = some m.cls := findClass_of_methodNamed hBd.named
  have hlocks := hBd.notSynchronized
  subst hsz
  have hD := hD.self (sz := s.heap.size)
  have hZA := hZ.own hP
  generalize hAe : va_A [(e0, .inr (0, [.ref eh, .ref eo, .ref ev, .ref er, .int el])), (eh, .inl (cI, 40, .inl fh))] s.heap.size = A at hD hZA ⊢
  have hA : ∀ q : Nat, s.heap.size ≤ q → A q := fun q h => by rw [← hAe]; exact Or.inr h
  have hZ := hZA
  have hS : va_S A s.heap s.heap [] := va_S.rf
  have hl := lv_entry ([.ref e0, .int x0, .int y0]) (n := 3) (Nat.le_of_ble_eq_true rfl)
  rw [lg_entry_eq]
  generalize (lg_sl ([.ref e0, .int x0, .int y0]) ++ List.replicate (3 - (lg_sl ([.ref e0, .int x0, .int y0])).length) Slot.unset).toArray = ls at hl ⊢
  have hl : lv_has ls 3 [(0, .ref e0), (1, .int x0), (2, .int y0)] := hl
  have hP : va_P D vwCl [(e0, .inr (0, [.ref eh, .ref eo, .ref ev, .ref er, .int el])), (eh, .inl (cI, 40, .inl fh))] s.heap := hP
  refine lv_aload_n hx hb dX0_setHeat_0 rfl (lv_at hl 0 rfl) ?_
  refine lv_iload_n hx hb dX0_setHeat_1 rfl (lv_at hl 1 rfl) ?_
  refine cr_i (va_runV (As := [.int x0]) (rest := []) ⟨hx, hb, hml, hown, hts⟩ (k_X0_has l D cI cZ cJ cK _ e0 x0 eh eo ev er el n (↑x) (hn) (hn4) (hxv) (by omega)) (cwV 1 hts (gV qw239 qw240 qw241 qw11 qw242) rfl rfl rfl (by decide +kernel) ⟨Nat.le_of_ble_eq_true rfl, Nat.le_of_ble_eq_true rfl⟩) (pv (ci := 0) (r := (RX0, TX0, 5)) (q0 := 0) hP hD hK hT hZ hS [0] rfl rfl rfl rfl) rfl rfl hl.1 rfl (lv_room (Nat.le_of_ble_eq_true rfl)) dX0_setHeat_2 ⟨Nat.le_of_ble_eq_true rfl, Nat.le_of_ble_eq_true rfl⟩) hS hP (fun x_2 H locs hw_2 hP hS => ?_)
  have hw_2 : (x_2 = iI (if (0 : Int) ≤ (↑x) ∧ (↑x) < (↑n : Int) then 1 else 0)) := hw_2
  have v_2 := hw_2
  refine lz_if_eq (tgt := 15) hx hb v_2 (by omega) dX0_setHeat_5 (by decide) (fun c_5 => ?_) (fun c_5 => ?_)
  · exfalso; omega
  · refine lv_aload_n hx hb dX0_setHeat_8 rfl (lv_at hl 0 rfl) ?_
    refine va_get (D := D) (ci := 0) (v := .ref eh) (C := RX0) (T := TX0) (N := 5) hx hb hts iX0 hown hK hP 0 rfl rfl 0 (by decide) (hts _ qw37) (fun _ h9 => h9) rfl dX0_setHeat_9 ?_
    refine lv_iload_n hx hb dX0_setHeat_12 rfl (lv_at hl 1 rfl) ?_
    refine lv_iload_n hx hb dX0_setHeat_13 rfl (lv_at hl 2 rfl) ?_
    refine lz_iast hx hb hK hP hD hS 1 0 rfl rfl hxv (x) (by omega) (by omega) (by decide) (ws2 := fun z => [(e0, .inr (0, [.ref eh, .ref eo, .ref ev, .ref er, .int el])), (eh, .inl (cI, 40, .inl z))]) (fun _ => rfl) dX0_setHeat_14 (fun f_14 H locs e_14 hP hD hS => ?_)
    have hP : va_P D vwCl [(e0, .inr (0, [.ref eh, .ref eo, .ref ev, .ref er, .int el])), (eh, .inl (cI, 40, .inl f_14))] H := hP
    have hD : va_D A [(e0, .inr (0, [.ref eh, .ref eo, .ref ev, .ref er, .int el])), (eh, .inl (cI, 40, .inl f_14))] := hD
    have hP9 := va_P_subm (ws' := [(e0, .inr (0, [.ref eh, .ref eo, .ref ev, .ref er, .int el])), (eh, .inl (cI, 40, .inl f_14))]) hP [0, 1] rfl
    have hD9 := hD.sub (ws' := [(e0, .inr (0, [.ref eh, .ref eo, .ref ev, .ref er, .int el])), (eh, .inl (cI, 40, .inl f_14))]) [0, 1] rfl rfl
    exact W.vret hx hb hr (fun t ht hW => ⟨⟨f_14, rfl, e_14, ⟨by rw [ht]; exact hP9, hD9⟩⟩, hS.F ht⟩) hS.2.2 dX0_setHeat_15
set_option maxHeartbeats 4000000 in
set_option maxRecDepth 100000 in
theorem k_X0_setHome (l : Launch) (D : va_G) (cI cZ cJ cK : ClassId) (hz9 : Nat) (e0 : Nat) (x0 : Int32) (y0 : Int32) (eh : Nat) (eo : Nat) (ev : Nat) (er : Nat) (el : Int32) (fo : Nat → Int32) (n x : Nat) (hn : el = iI ↑n) (hn4 : n ≤ 40) (hxv : x0 = iI ↑x) (hxn : x < n) : Met l yX0_setHome (ws_ yX0_setHome cX0_setHome 3 (Option.none : Option Jvm.ClassFile.FieldType)) ({ frames := 1, cells := 0, slots := 0, locals := 21 }) (va_Pc [.ref e0, .int x0, .int y0] (wPre D cI cZ cJ cK hz9 [(e0, .inr (0, [.ref eh, .ref eo, .ref ev, .ref er, .int el])), (eo, .inl (cI, 40, .inl fo))])) (va_Qv (fun (u : (Nat → Int32)) => (u = upd fo x y0)) (fun (u : (Nat → Int32)) t => wPost D (va_A [(e0, .inr (0, [.ref eh, .ref eo, .ref ev, .ref er, .int el])), (eo, .inl (cI, 40, .inl fo))] hz9) [(e0, .inr (0, [.ref eh, .ref eo, .ref ev, .ref er, .int el])), (eo, .inl (cI, 40, .inl u))] t) (va_A [(e0, .inr (0, [.ref eh, .ref eo, .ref ev, .ref er, .int el])), (eo, .inl (cI, 40, .inl fo))] hz9)) 0 0 (va_A [(e0, .inr (0, [.ref eh, .ref eo, .ref ev, .ref er, .int el])), (eo, .inl (cI, 40, .inl fo))] hz9) := by
  refine Met.ofW (cc := cX0_setHome) (maxL := 3) (ret := (Option.none : Option Jvm.ClassFile.FieldType)) (by decide) rfl ?_
  intro p e s m args below meth c s₁ hBd hml hv
  obtain ⟨rfl, hsz, hP, hD, hK, hT, hZ⟩ := hv
  have hx := hBd.exec
  have hb := hBd.bytes
  have hr := hBd.returns
  have hts : ∀ w ∈ lw_G, w.before _ s = true := fun w h => atoms_spec (ws := (ws_ yX0_setHome cX0_setHome 3 (Option.none : Option Jvm.ClassFile.FieldType))) hBd.pre w (List.mem_cons_of_mem _ h)
  have hown : s.vm.findClass RX0 = some m.cls := findClass_of_methodNamed hBd.named
  have hlocks := hBd.notSynchronized
  subst hsz
  have hD := hD.self (sz := s.heap.size)
  have hZA := hZ.own hP
  generalize hAe : va_A [(e0, .inr (0, [.ref eh, .ref eo, .ref ev, .ref er, .int el])), (eo, .inl (cI, 40, .inl fo))] s.heap.size = A at hD hZA ⊢
  have hA : ∀ q : Nat, s.heap.size ≤ q → A q := fun q h => by rw [← hAe]; exact Or.inr h
  have hZ := hZA
  have hS : va_S A s.heap s.heap [] := va_S.rf
  have hl := lv_entry ([.ref e0, .int x0, .int y0]) (n := 3) (Nat.le_of_ble_eq_true rfl)
  rw [lg_entry_eq]
  generalize (lg_sl ([.ref e0, .int x0, .int y0]) ++ List.replicate (3 - (lg_sl ([.ref e0, .int x0, .int y0])).length) Slot.unset).toArray = ls at hl ⊢
  have hl : lv_has ls 3 [(0, .ref e0), (1, .int x0), (2, .int y0)] := hl
  have hP : va_P D vwCl [(e0, .inr (0, [.ref eh, .ref eo, .ref ev, .ref er, .int el])), (eo, .inl (cI, 40, .inl fo))] s.heap := hP
  refine lv_aload_n hx hb dX0_setHome_0 rfl (lv_at hl 0 rfl) ?_
  refine lv_iload_n hx hb dX0_setHome_1 rfl (lv_at hl 1 rfl) ?_
  refine cr_i (va_runV (As := [.int x0]) (rest := []) ⟨hx, hb, hml, hown, hts⟩ (k_X0_has l D cI cZ cJ cK _ e0 x0 eh eo ev er el n (↑x) (hn) (hn4) (hxv) (by omega)) (cwV 1 hts (gV qw239 qw240 qw241 qw11 qw242) rfl rfl rfl (by decide +kernel) ⟨Nat.le_of_ble_eq_true rfl, Nat.le_of_ble_eq_true rfl⟩) (pv (ci := 0) (r := (RX0, TX0, 5)) (q0 := 0) hP hD hK hT hZ hS [0] rfl rfl rfl rfl) rfl rfl hl.1 rfl (lv_room (Nat.le_of_ble_eq_true rfl)) dX0_setHome_2 ⟨Nat.le_of_ble_eq_true rfl, Nat.le_of_ble_eq_true rfl⟩) hS hP (fun x_2 H locs hw_2 hP hS => ?_)
  have hw_2 : (x_2 = iI (if (0 : Int) ≤ (↑x) ∧ (↑x) < (↑n : Int) then 1 else 0)) := hw_2
  have v_2 := hw_2
  refine lz_if_eq (tgt := 15) hx hb v_2 (by omega) dX0_setHome_5 (by decide) (fun c_5 => ?_) (fun c_5 => ?_)
  · exfalso; omega
  · refine lv_aload_n hx hb dX0_setHome_8 rfl (lv_at hl 0 rfl) ?_
    refine va_get (D := D) (ci := 0) (v := .ref eo) (C := RX0) (T := TX0) (N := 5) hx hb hts iX0 hown hK hP 0 rfl rfl 1 (by decide) (hts _ qw38) (fun _ h9 => h9) rfl dX0_setHome_9 ?_
    refine lv_iload_n hx hb dX0_setHome_12 rfl (lv_at hl 1 rfl) ?_
    refine lv_iload_n hx hb dX0_setHome_13 rfl (lv_at hl 2 rfl) ?_
    refine lz_iast hx hb hK hP hD hS 1 0 rfl rfl hxv (x) (by omega) (by omega) (by decide) (ws2 := fun z => [(e0, .inr (0, [.ref eh, .ref eo, .ref ev, .ref er, .int el])), (eo, .inl (cI, 40, .inl z))]) (fun _ => rfl) dX0_setHome_14 (fun f_14 H locs e_14 hP hD hS => ?_)
    have hP : va_P D vwCl [(e0, .inr (0, [.ref eh, .ref eo, .ref ev, .ref er, .int el])), (eo, .inl (cI, 40, .inl f_14))] H := hP
    have hD : va_D A [(e0, .inr (0, [.ref eh, .ref eo, .ref ev, .ref er, .int el])), (eo, .inl (cI, 40, .inl f_14))] := hD
    have hP9 := va_P_subm (ws' := [(e0, .inr (0, [.ref eh, .ref eo, .ref ev, .ref er, .int el])), (eo, .inl (cI, 40, .inl f_14))]) hP [0, 1] rfl
    have hD9 := hD.sub (ws' := [(e0, .inr (0, [.ref eh, .ref eo, .ref ev, .ref er, .int el])), (eo, .inl (cI, 40, .inl f_14))]) [0, 1] rfl rfl
    exact W.vret hx hb hr (fun t ht hW => ⟨⟨f_14, rfl, e_14, ⟨by rw [ht]; exact hP9, hD9⟩⟩, hS.F ht⟩) hS.2.2 dX0_setHome_15
set_option maxHeartbeats 4000000 in
set_option maxRecDepth 100000 in
theorem k_X0_noteMove (l : Launch) (D : va_G) (cI cZ cJ cK : ClassId) (hz9 : Nat) (e0 : Nat) (x0 : Int32) (eh : Nat) (eo : Nat) (ev : Nat) (er : Nat) (el : Int32) (fm : Nat → Int32) (n x : Nat) (hn : el = iI ↑n) (hn4 : n ≤ 40) (hxv : x0 = iI ↑x) (hxn : x < n) : Met l yX0_noteMove (ws_ yX0_noteMove cX0_noteMove 2 (Option.none : Option Jvm.ClassFile.FieldType)) ({ frames := 1, cells := 0, slots := 0, locals := 21 }) (va_Pc [.ref e0, .int x0] (wPre D cI cZ cJ cK hz9 [(e0, .inr (0, [.ref eh, .ref eo, .ref ev, .ref er, .int el])), (ev, .inl (cI, 40, .inl fm))])) (va_Qv (fun (u : (Nat → Int32)) => (u = upd fm x (fm x + 1))) (fun (u : (Nat → Int32)) t => wPost D (va_A [(e0, .inr (0, [.ref eh, .ref eo, .ref ev, .ref er, .int el])), (ev, .inl (cI, 40, .inl fm))] hz9) [(e0, .inr (0, [.ref eh, .ref eo, .ref ev, .ref er, .int el])), (ev, .inl (cI, 40, .inl u))] t) (va_A [(e0, .inr (0, [.ref eh, .ref eo, .ref ev, .ref er, .int el])), (ev, .inl (cI, 40, .inl fm))] hz9)) 0 0 (va_A [(e0, .inr (0, [.ref eh, .ref eo, .ref ev, .ref er, .int el])), (ev, .inl (cI, 40, .inl fm))] hz9) := by
  refine Met.ofW (cc := cX0_noteMove) (maxL := 2) (ret := (Option.none : Option Jvm.ClassFile.FieldType)) (by decide) rfl ?_
  intro p e s m args below meth c s₁ hBd hml hv
  obtain ⟨rfl, hsz, hP, hD, hK, hT, hZ⟩ := hv
  have hx := hBd.exec
  have hb := hBd.bytes
  have hr := hBd.returns
  have hts : ∀ w ∈ lw_G, w.before _ s = true := fun w h => atoms_spec (ws := (ws_ yX0_noteMove cX0_noteMove 2 (Option.none : Option Jvm.ClassFile.FieldType))) hBd.pre w (List.mem_cons_of_mem _ h)
  have hown : s.vm.findClass RX0 = some m.cls := findClass_of_methodNamed hBd.named
  have hlocks := hBd.notSynchronized
  subst hsz
  have hD := hD.self (sz := s.heap.size)
  have hZA := hZ.own hP
  generalize hAe : va_A [(e0, .inr (0, [.ref eh, .ref eo, .ref ev, .ref er, .int el])), (ev, .inl (cI, 40, .inl fm))] s.heap.size = A at hD hZA ⊢
  have hA : ∀ q : Nat, s.heap.size ≤ q → A q := fun q h => by rw [← hAe]; exact Or.inr h
  have hZ := hZA
  have hS : va_S A s.heap s.heap [] := va_S.rf
  have hl := lv_entry ([.ref e0, .int x0]) (n := 2) (Nat.le_of_ble_eq_true rfl)
  rw [lg_entry_eq]
  generalize (lg_sl ([.ref e0, .int x0]) ++ List.replicate (2 - (lg_sl ([.ref e0, .int x0])).length) Slot.unset).toArray = ls at hl ⊢
  have hl : lv_has ls 2 [(0, .ref e0), (1, .int x0)] := hl
  have hP : va_P D vwCl [(e0, .inr (0, [.ref eh, .ref eo, .ref ev, .ref er, .int el])), (ev, .inl (cI, 40, .inl fm))] s.heap := hP
  refine lv_aload_n hx hb dX0_noteMove_0 rfl (lv_at hl 0 rfl) ?_
  refine lv_iload_n hx hb dX0_noteMove_1 rfl (lv_at hl 1 rfl) ?_
  refine cr_i (va_runV (As := [.int x0]) (rest := []) ⟨hx, hb, hml, hown, hts⟩ (k_X0_has l D cI cZ cJ cK _ e0 x0 eh eo ev er el n (↑x) (hn) (hn4) (hxv) (by omega)) (cwV 1 hts (gV qw239 qw240 qw241 qw11 qw242) rfl rfl rfl (by decide +kernel) ⟨Nat.le_of_ble_eq_true rfl, Nat.le_of_ble_eq_true rfl⟩) (pv (ci := 0) (r := (RX0, TX0, 5)) (q0 := 0) hP hD hK hT hZ hS [0] rfl rfl rfl rfl) rfl rfl hl.1 rfl (lv_room (Nat.le_of_ble_eq_true rfl)) dX0_noteMove_2 ⟨Nat.le_of_ble_eq_true rfl, Nat.le_of_ble_eq_true rfl⟩) hS hP (fun x_2 H locs hw_2 hP hS => ?_)
  have hw_2 : (x_2 = iI (if (0 : Int) ≤ (↑x) ∧ (↑x) < (↑n : Int) then 1 else 0)) := hw_2
  have v_2 := hw_2
  refine lz_if_eq (tgt := 18) hx hb v_2 (by omega) dX0_noteMove_5 (by decide) (fun c_5 => ?_) (fun c_5 => ?_)
  · exfalso; omega
  · refine lv_aload_n hx hb dX0_noteMove_8 rfl (lv_at hl 0 rfl) ?_
    refine va_get (D := D) (ci := 0) (v := .ref ev) (C := RX0) (T := TX0) (N := 5) hx hb hts iX0 hown hK hP 0 rfl rfl 2 (by decide) (hts _ qw39) (fun _ h9 => h9) rfl dX0_noteMove_9 ?_
    refine lv_iload_n hx hb dX0_noteMove_12 rfl (lv_at hl 1 rfl) ?_
    refine lv_dup2_11 hx hb dX0_noteMove_13 rfl rfl ?_
    refine lz_iald hx hb hK hP 1 0 rfl rfl hxv (x) (by omega) (by omega) (by decide) dX0_noteMove_14 (fun x_14 e_14 => ?_)
    refine lz_iconst hx hb dX0_noteMove_15 (fun x_15 v_15 => ?_)
    refine lv_iadd hx hb dX0_noteMove_16 ?_
    refine lv_topi (fun x_16 e_16 => ?_)
    refine lz_iast hx hb hK hP hD hS 1 0 rfl rfl hxv (x) (by omega) (by omega) (by decide) (ws2 := fun z => [(e0, .inr (0, [.ref eh, .ref eo, .ref ev, .ref er, .int el])), (ev, .inl (cI, 40, .inl z))]) (fun _ => rfl) dX0_noteMove_17 (fun f_17 H locs e_17 hP hD hS => ?_)
    have hP : va_P D vwCl [(e0, .inr (0, [.ref eh, .ref eo, .ref ev, .ref er, .int el])), (ev, .inl (cI, 40, .inl f_17))] H := hP
    have hD : va_D A [(e0, .inr (0, [.ref eh, .ref eo, .ref ev, .ref er, .int el])), (ev, .inl (cI, 40, .inl f_17))] := hD
    have hP9 := va_P_subm (ws' := [(e0, .inr (0, [.ref eh, .ref eo, .ref ev, .ref er, .int el])), (ev, .inl (cI, 40, .inl f_17))]) hP [0, 1] rfl
    have hD9 := hD.sub (ws' := [(e0, .inr (0, [.ref eh, .ref eo, .ref ev, .ref er, .int el])), (ev, .inl (cI, 40, .inl f_17))]) [0, 1] rfl rfl
    exact W.vret hx hb hr (fun t ht hW => ⟨⟨f_17, rfl, by rw [e_17, e_16, e_14, v_15]; rfl, ⟨by rw [ht]; exact hP9, hD9⟩⟩, hS.F ht⟩) hS.2.2 dX0_noteMove_18
set_option maxHeartbeats 4000000 in
set_option maxRecDepth 100000 in
theorem k_X0_goOut (l : Launch) (D : va_G) (cI cZ cJ cK : ClassId) (hz9 : Nat) (e0 : Nat) (x0 : Int32) (y0 : Int32) (eh : Nat) (eo : Nat) (ev : Nat) (er : Nat) (el : Int32) (fo : Nat → Int32) (fr : Nat → Int32) (n x : Nat) (b : Int) (hn : el = iI ↑n) (hn4 : n ≤ 40) (hxv : x0 = iI ↑x) (hxn : x < n) (hyv : y0 = iI b) (hyb : b = 0 ∨ b = 1) : Met l yX0_goOut (ws_ yX0_goOut cX0_goOut 3 (Option.none : Option Jvm.ClassFile.FieldType)) ({ frames := 1, cells := 0, slots := 0, locals := 21 }) (va_Pc [.ref e0, .int x0, .int y0] (wPre D cI cZ cJ cK hz9 [(e0, .inr (0, [.ref eh, .ref eo, .ref ev, .ref er, .int el])), (eo, .inl (cI, 40, .inl fo)), (er, .inl (cZ, 40, .inl fr))])) (va_Qv (fun (u : (Nat → Int32) × (Nat → Int32)) => (u.1 = upd fo x (iI (-1))) ∧ (u.2 = upd fr x (iI b))) (fun (u : (Nat → Int32) × (Nat → Int32)) t => wPost D (va_A [(e0, .inr (0, [.ref eh, .ref eo, .ref ev, .ref er, .int el])), (eo, .inl (cI, 40, .inl fo)), (er, .inl (cZ, 40, .inl fr))] hz9) [(e0, .inr (0, [.ref eh, .ref eo, .ref ev, .ref er, .int el])), (eo, .inl (cI, 40, .inl u.1)), (er, .inl (cZ, 40, .inl u.2))] t) (va_A [(e0, .inr (0, [.ref eh, .ref eo, .ref ev, .ref er, .int el])), (eo, .inl (cI, 40, .inl fo)), (er, .inl (cZ, 40, .inl fr))] hz9)) 0 0 (va_A [(e0, .inr (0, [.ref eh, .ref eo, .ref ev, .ref er, .int el])), (eo, .inl (cI, 40, .inl fo)), (er, .inl (cZ, 40, .inl fr))] hz9) := by
  refine Met.ofW (cc := cX0_goOut) (maxL := 3) (ret := (Option.none : Option Jvm.ClassFile.FieldType)) (by decide) rfl ?_
  intro p e s m args below meth c s₁ hBd hml hv
  obtain ⟨rfl, hsz, hP, hD, hK, hT, hZ⟩ := hv
  have hx := hBd.exec
  have hb := hBd.bytes
  have hr := hBd.returns
  have hts : ∀ w ∈ lw_G, w.before _ s = true := fun w h => atoms_spec (ws := (ws_ yX0_goOut cX0_goOut 3 (Option.none : Option Jvm.ClassFile.FieldType))) hBd.pre w (List.mem_cons_of_mem _ h)
  have hown : s.vm.findClass RX0 = some m.cls := findClass_of_methodNamed hBd.named
  have hlocks := hBd.notSynchronized
  subst hsz
  have hD := hD.self (sz := s.heap.size)
  have hZA := hZ.own hP
  generalize hAe : va_A [(e0, .inr (0, [.ref eh, .ref eo, .ref ev, .ref er, .int el])), (eo, .inl (cI, 40, .inl fo)), (er, .inl (cZ, 40, .inl fr))] s.heap.size = A at hD hZA ⊢
  have hA : ∀ q : Nat, s.heap.size ≤ q → A q := fun q h => by rw [← hAe]; exact Or.inr h
  have hZ := hZA
  have hS : va_S A s.heap s.heap [] := va_S.rf
  have hl := lv_entry ([.ref e0, .int x0, .int y0]) (n := 3) (Nat.le_of_ble_eq_true rfl)
  rw [lg_entry_eq]
  generalize (lg_sl ([.ref e0, .int x0, .int y0]) ++ List.replicate (3 - (lg_sl ([.ref e0, .int x0, .int y0])).length) Slot.unset).toArray = ls at hl ⊢
  have hl : lv_has ls 3 [(0, .ref e0), (1, .int x0), (2, .int y0)] := hl
  have hP : va_P D vwCl [(e0, .inr (0, [.ref eh, .ref eo, .ref ev, .ref er, .int el])), (eo, .inl (cI, 40, .inl fo)), (er, .inl (cZ, 40, .inl fr))] s.heap := hP
  refine lv_aload_n hx hb dX0_goOut_0 rfl (lv_at hl 0 rfl) ?_
  refine lv_iload_n hx hb dX0_goOut_1 rfl (lv_at hl 1 rfl) ?_
  refine cr_i (va_runV (As := [.int x0]) (rest := []) ⟨hx, hb, hml, hown, hts⟩ (k_X0_has l D cI cZ cJ cK _ e0 x0 eh eo ev er el n (↑x) (hn) (hn4) (hxv) (by omega)) (cwV 1 hts (gV qw239 qw240 qw241 qw11 qw242) rfl rfl rfl (by decide +kernel) ⟨Nat.le_of_ble_eq_true rfl, Nat.le_of_ble_eq_true rfl⟩) (pv (ci := 0) (r := (RX0, TX0, 5)) (q0 := 0) hP hD hK hT hZ hS [0] rfl rfl rfl rfl) rfl rfl hl.1 rfl (lv_room (Nat.le_of_ble_eq_true rfl)) dX0_goOut_2 ⟨Nat.le_of_ble_eq_true rfl, Nat.le_of_ble_eq_true rfl⟩) hS hP (fun x_2 H locs hw_2 hP hS => ?_)
  have hw_2 : (x_2 = iI (if (0 : Int) ≤ (↑x) ∧ (↑x) < (↑n : Int) then 1 else 0)) := hw_2
  have v_2 := hw_2
  refine lz_if_eq (tgt := 22) hx hb v_2 (by omega) dX0_goOut_5 (by decide) (fun c_5 => ?_) (fun c_5 => ?_)
  · exfalso; omega
  · refine lv_aload_n hx hb dX0_goOut_8 rfl (lv_at hl 0 rfl) ?_
    refine va_get (D := D) (ci := 0) (v := .ref eo) (C := RX0) (T := TX0) (N := 5) hx hb hts iX0 hown hK hP 0 rfl rfl 1 (by decide) (hts _ qw38) (fun _ h9 => h9) rfl dX0_goOut_9 ?_
    refine lv_iload_n hx hb dX0_goOut_12 rfl (lv_at hl 1 rfl) ?_
    refine lz_iconst hx hb dX0_goOut_13 (fun x_13 v_13 => ?_)
    refine lz_iast hx hb hK hP hD hS 1 0 rfl rfl hxv (x) (by omega) (by omega) (by decide) (ws2 := fun z => [(e0, .inr (0, [.ref eh, .ref eo, .ref ev, .ref er, .int el])), (eo, .inl (cI, 40, .inl z)), (er, .inl (cZ, 40, .inl fr))]) (fun _ => rfl) dX0_goOut_14 (fun f_14 H locs e_14 hP hD hS => ?_)
    have hP : va_P D vwCl [(e0, .inr (0, [.ref eh, .ref eo, .ref ev, .ref er, .int el])), (eo, .inl (cI, 40, .inl f_14)), (er, .inl (cZ, 40, .inl fr))] H := hP
    have hD : va_D A [(e0, .inr (0, [.ref eh, .ref eo, .ref ev, .ref er, .int el])), (eo, .inl (cI, 40, .inl f_14)), (er, .inl (cZ, 40, .inl fr))] := hD
    refine lv_aload_n hx hb dX0_goOut_15 rfl (lv_at hl 0 rfl) ?_
    refine va_get (D := D) (ci := 0) (v := .ref er) (C := RX0) (T := TX0) (N := 5) hx hb hts iX0 hown hK hP 0 rfl rfl 3 (by decide) (hts _ qw40) (fun _ h9 => h9) rfl dX0_goOut_16 ?_
    refine lv_iload_n hx hb dX0_goOut_19 rfl (lv_at hl 1 rfl) ?_
    refine lv_iload_n hx hb dX0_goOut_20 rfl (lv_at hl 2 rfl) ?_
    refine lz_zast hx hb hK hP hD hS 2 1 rfl rfl hxv (x) (by omega) (by omega) (by decide) (ws2 := fun z => [(e0, .inr (0, [.ref eh, .ref eo, .ref ev, .ref er, .int el])), (eo, .inl (cI, 40, .inl f_14)), (er, .inl (cZ, 40, .inl z))]) (fun _ => rfl) dX0_goOut_21 (fun f_21 H locs e_21 hP hD hS => ?_)
    have hP : va_P D vwCl [(e0, .inr (0, [.ref eh, .ref eo, .ref ev, .ref er, .int el])), (eo, .inl (cI, 40, .inl f_14)), (er, .inl (cZ, 40, .inl f_21))] H := hP
    have hD : va_D A [(e0, .inr (0, [.ref eh, .ref eo, .ref ev, .ref er, .int el])), (eo, .inl (cI, 40, .inl f_14)), (er, .inl (cZ, 40, .inl f_21))] := hD
    have hP9 := va_P_subm (ws' := [(e0, .inr (0, [.ref eh, .ref eo, .ref ev, .ref er, .int el])), (eo, .inl (cI, 40, .inl f_14)), (er, .inl (cZ, 40, .inl f_21))]) hP [0, 1, 2] rfl
    have hD9 := hD.sub (ws' := [(e0, .inr (0, [.ref eh, .ref eo, .ref ev, .ref er, .int el])), (eo, .inl (cI, 40, .inl f_14)), (er, .inl (cZ, 40, .inl f_21))]) [0, 1, 2] rfl rfl
    exact W.vret hx hb hr (fun t ht hW => ⟨⟨⟨f_14, f_21⟩, rfl, ⟨by rw [e_14, v_13], by rw [e_21, hyv]; rcases hyb with rfl | rfl <;> rfl⟩, ⟨by rw [ht]; exact hP9, hD9⟩⟩, hS.F ht⟩) hS.2.2 dX0_goOut_22
set_option maxHeartbeats 4000000 in
set_option maxRecDepth 100000 in
theorem k_X0_add (l : Launch) (D : va_G) (cI cZ cJ cK : ClassId) (hz9 : Nat) (e0 : Nat) (h0 : Int32) (g0 : Int32) (eh : Nat) (eo : Nat) (ev : Nat) (er : Nat) (el : Int32) (fh : Nat → Int32) (fo : Nat → Int32) (n : Nat) (hn : el = iI ↑n) (hn4 : n < 40) : Met l yX0_add (ws_ yX0_add cX0_add 4 (Option.some .int)) ({ frames := 0, cells := 0, slots := 0, locals := 0 }) (va_Pc [.ref e0, .int h0, .int g0] (wPre D cI cZ cJ cK hz9 [(e0, .inr (0, [.ref eh, .ref eo, .ref ev, .ref er, .int el])), (eh, .inl (cI, 40, .inl fh)), (eo, .inl (cI, 40, .inl fo))])) (va_Qi (fun r (u : Int32 × (Nat → Int32) × (Nat → Int32)) => (r = iI (↑n)) ∧ (u.1 = iI (↑n + 1)) ∧ (u.2.1 = upd fh n h0) ∧ (u.2.2 = upd fo n g0)) (fun (u : Int32 × (Nat → Int32) × (Nat → Int32)) t => wPost D (va_A [(e0, .inr (0, [.ref eh, .ref eo, .ref ev, .ref er, .int el])), (eh, .inl (cI, 40, .inl fh)), (eo, .inl (cI, 40, .inl fo))] hz9) [(e0, .inr (0, [.ref eh, .ref eo, .ref ev, .ref er, .int u.1])), (eh, .inl (cI, 40, .inl u.2.1)), (eo, .inl (cI, 40, .inl u.2.2))] t) (va_A [(e0, .inr (0, [.ref eh, .ref eo, .ref ev, .ref er, .int el])), (eh, .inl (cI, 40, .inl fh)), (eo, .inl (cI, 40, .inl fo))] hz9)) 0 0 (va_A [(e0, .inr (0, [.ref eh, .ref eo, .ref ev, .ref er, .int el])), (eh, .inl (cI, 40, .inl fh)), (eo, .inl (cI, 40, .inl fo))] hz9) := by
  refine Met.ofW (cc := cX0_add) (maxL := 4) (ret := (Option.some .int)) (by decide) rfl ?_
  intro p e s m args below meth c s₁ hBd hml hv
  obtain ⟨rfl, hsz, hP, hD, hK, hT, hZ⟩ := hv
  have hx := hBd.exec
  have hb := hBd.bytes
  have hr := hBd.returns
  have hts : ∀ w ∈ lw_G, w.before _ s = true := fun w h => atoms_spec (ws := (ws_ yX0_add cX0_add 4 (Option.some .int))) hBd.pre w (List.mem_cons_of_mem _ h)
  have hown : s.vm.findClass RX0 = some m.cls := findClass_of_methodNamed hBd.named
  have hlocks := hBd.notSynchronized
  subst hsz
  have hD := hD.self (sz := s.heap.size)
  have hZA := hZ.own hP
  generalize hAe : va_A [(e0, .inr (0, [.ref eh, .ref eo, .ref ev, .ref er, .int el])), (eh, .inl (cI, 40, .inl fh)), (eo, .inl (cI, 40, .inl fo))] s.heap.size = A at hD hZA ⊢
  have hA : ∀ q : Nat, s.heap.size ≤ q → A q := fun q h => by rw [← hAe]; exact Or.inr h
  have hZ := hZA
  have hS : va_S A s.heap s.heap [] := va_S.rf
  have hl := lv_entry ([.ref e0, .int h0, .int g0]) (n := 4) (Nat.le_of_ble_eq_true rfl)
  rw [lg_entry_eq]
  generalize (lg_sl ([.ref e0, .int h0, .int g0]) ++ List.replicate (4 - (lg_sl ([.ref e0, .int h0, .int g0])).length) Slot.unset).toArray = ls at hl ⊢
  have hl : lv_has ls 4 [(0, .ref e0), (1, .int h0), (2, .int g0)] := hl
  have hP : va_P D vwCl [(e0, .inr (0, [.ref eh, .ref eo, .ref ev, .ref er, .int el])), (eh, .inl (cI, 40, .inl fh)), (eo, .inl (cI, 40, .inl fo))] s.heap := hP
  refine lv_aload_n hx hb dX0_add_0 rfl (lv_at hl 0 rfl) ?_
  refine va_get (D := D) (ci := 0) (v := .int el) (C := RX0) (T := TX0) (N := 5) hx hb hts iX0 hown hK hP 0 rfl rfl 4 (by decide) (hts _ qw41) (fun _ h9 => h9) rfl dX0_add_1 ?_
  refine lz_bipush hx hb (by decide) dX0_add_4 (fun x_4 v_4 => ?_)
  refine lz_icmp_lt (tgt := 11) hx hb hn v_4 ⟨by omega, by omega⟩ dX0_add_6 (by decide) (fun c_6 => ?_) (fun c_6 => ?_)
  · refine lv_aload_n hx hb dX0_add_11 rfl (lv_at hl 0 rfl) ?_
    refine va_get (D := D) (ci := 0) (v := .int el) (C := RX0) (T := TX0) (N := 5) hx hb hts iX0 hown hK hP 0 rfl rfl 4 (by decide) (hts _ qw41) (fun _ h9 => h9) rfl dX0_add_12 ?_
    refine lv_istore_n (lv' := [(3, .int el), (0, .ref e0), (1, .int h0), (2, .int g0)]) hx hb dX0_add_15 rfl hl (by decide) rfl (fun ls hl => ?_)
    refine lv_aload_n hx hb dX0_add_16 rfl (lv_at hl 1 rfl) ?_
    refine va_get (D := D) (ci := 0) (v := .ref eh) (C := RX0) (T := TX0) (N := 5) hx hb hts iX0 hown hK hP 0 rfl rfl 0 (by decide) (hts _ qw37) (fun _ h9 => h9) rfl dX0_add_17 ?_
    refine lv_iload_n hx hb dX0_add_20 rfl (lv_at hl 0 rfl) ?_
    refine lv_iload_n hx hb dX0_add_21 rfl (lv_at hl 2 rfl) ?_
    refine lz_iast hx hb hK hP hD hS 1 0 rfl rfl hn (n) (by omega) (by omega) (by decide) (ws2 := fun z => [(e0, .inr (0, [.ref eh, .ref eo, .ref ev, .ref er, .int el])), (eh, .inl (cI, 40, .inl z)), (eo, .inl (cI, 40, .inl fo))]) (fun _ => rfl) dX0_add_22 (fun f_22 H locs e_22 hP hD hS => ?_)
    have hP : va_P D vwCl [(e0, .inr (0, [.ref eh, .ref eo, .ref ev, .ref er, .int el])), (eh, .inl (cI, 40, .inl f_22)), (eo, .inl (cI, 40, .inl fo))] H := hP
    have hD : va_D A [(e0, .inr (0, [.ref eh, .ref eo, .ref ev, .ref er, .int el])), (eh, .inl (cI, 40, .inl f_22)), (eo, .inl (cI, 40, .inl fo))] := hD
    refine lv_aload_n hx hb dX0_add_23 rfl (lv_at hl 1 rfl) ?_
    refine va_get (D := D) (ci := 0) (v := .ref eo) (C := RX0) (T := TX0) (N := 5) hx hb hts iX0 hown hK hP 0 rfl rfl 1 (by decide) (hts _ qw38) (fun _ h9 => h9) rfl dX0_add_24 ?_
    refine lv_iload_n hx hb dX0_add_27 rfl (lv_at hl 0 rfl) ?_
    refine lv_iload_n hx hb dX0_add_28 rfl (lv_at hl 3 rfl) ?_
    refine lz_iast hx hb hK hP hD hS 2 0 rfl rfl hn (n) (by omega) (by omega) (by decide) (ws2 := fun z => [(e0, .inr (0, [.ref eh, .ref eo, .ref ev, .ref er, .int el])), (eh, .inl (cI, 40, .inl f_22)), (eo, .inl (cI, 40, .inl z))]) (fun _ => rfl) dX0_add_29 (fun f_29 H locs e_29 hP hD hS => ?_)
    have hP : va_P D vwCl [(e0, .inr (0, [.ref eh, .ref eo, .ref ev, .ref er, .int el])), (eh, .inl (cI, 40, .inl f_22)), (eo, .inl (cI, 40, .inl f_29))] H := hP
    have hD : va_D A [(e0, .inr (0, [.ref eh, .ref eo, .ref ev, .ref er, .int el])), (eh, .inl (cI, 40, .inl f_22)), (eo, .inl (cI, 40, .inl f_29))] := hD
    refine lv_aload_n hx hb dX0_add_30 rfl (lv_at hl 1 rfl) ?_
    refine lv_dup hx hb dX0_add_31 rfl ?_
    refine va_get (D := D) (ci := 0) (v := .int el) (C := RX0) (T := TX0) (N := 5) hx hb hts iX0 hown hK hP 0 rfl rfl 4 (by decide) (hts _ qw41) (fun _ h9 => h9) rfl dX0_add_32 ?_
    refine lz_iconst hx hb dX0_add_35 (fun x_35 v_35 => ?_)
    refine lz_iadd hx hb hn v_35 dX0_add_36 (fun x_36 v_36 => ?_)
    refine va_put (D := D) (ci := 0) (v := .int x_36) (ty := .int) (C := RX0) (T := TX0) (N := 5) hx hb hts iX0 tyX0 tyX0_ok nmX0 hown hK hP hD hS 0 rfl rfl 4 (by decide) (hts _ qw41) (fun _ h9 => h9) rfl (by decide +kernel) rfl rfl (Nat.le_of_ble_eq_true rfl) dX0_add_37 (fun H locs hP hD hS => ?_)
    have hP : va_P D vwCl [(e0, .inr (0, [.ref eh, .ref eo, .ref ev, .ref er, .int x_36])), (eh, .inl (cI, 40, .inl f_22)), (eo, .inl (cI, 40, .inl f_29))] H := hP
    have hD : va_D A [(e0, .inr (0, [.ref eh, .ref eo, .ref ev, .ref er, .int x_36])), (eh, .inl (cI, 40, .inl f_22)), (eo, .inl (cI, 40, .inl f_29))] := hD
    refine lv_iload_n hx hb dX0_add_40 rfl (lv_at hl 0 rfl) ?_
    have hP9 := va_P_subm (ws' := [(e0, .inr (0, [.ref eh, .ref eo, .ref ev, .ref er, .int x_36])), (eh, .inl (cI, 40, .inl f_22)), (eo, .inl (cI, 40, .inl f_29))]) hP [0, 1, 2] rfl
    have hD9 := hD.sub (ws' := [(e0, .inr (0, [.ref eh, .ref eo, .ref ev, .ref er, .int x_36])), (eh, .inl (cI, 40, .inl f_22)), (eo, .inl (cI, 40, .inl f_29))]) [0, 1, 2] rfl rfl
    exact W.iret (v := el) hx hb hr (fun t ht hW => ⟨⟨el, ⟨x_36, f_22, f_29⟩, rfl, ⟨hn, v_36, e_22, e_29⟩, ⟨by rw [ht]; exact hP9, hD9⟩⟩, hS.F ht⟩) hS.2.2 dX0_add_41
  · exfalso; omega
