theorem pm_n (ws : va_W) : ws.Perm (ws ++ []) := by rw [List.append_nil]
theorem pm_3 (A C S : va_W) : (A ++ (C ++ S)).Perm ((A ++ S) ++ C) := by rw [List.append_assoc]; exact List.Perm.append_left A List.perm_append_comm
set_option maxHeartbeats 4000000 in
set_option maxRecDepth 100000 in
theorem k_L_below (l : Launch) (D : va_G) (cI cZ cJ cK : ClassId) (hz9 : Nat) (v0 : Int32) (k0 : Int32) (k : Nat) (hkv : k0 = iI ↑k) (hk0 : 0 < k) (hkb : k < 2147483648) : Met l yL_below (ws_ yL_below cL_below 2 (Option.some .int)) ({ frames := 0, cells := 0, slots := 0, locals := 0 }) (va_Pc [.int v0, .int k0] (wPre D cI cZ cJ cK hz9 [])) (va_Qi (fun r (_ : Unit) => (r = iI (↑(bel v0 k)))) (fun _ _ => True) (fun _ => False)) 0 0 (fun _ => False) := by
  refine Met.ofW (cc := cL_below) (maxL := 2) (ret := (Option.some .int)) (by decide) rfl ?_
  intro p e s m args below meth c s₁ hBd hml hv
  obtain ⟨rfl, hsz, hP, hD, hK, hT, hZ⟩ := hv
  have hx := hBd.exec
  have hb := hBd.bytes
  have hr := hBd.returns
  have hts : ∀ w ∈ lw_G, w.before _ s = true := fun w h => atoms_spec (ws := (ws_ yL_below cL_below 2 (Option.some .int))) hBd.pre w (List.mem_cons_of_mem _ h)
  have hown : s.vm.findClass RL = some m.cls := findClass_of_methodNamed hBd.named
  have hlocks := hBd.notSynchronized
  subst hsz
  have hS : va_S (fun _ => False) s.heap s.heap [] := va_S.rf
  have hl := lv_entry ([.int v0, .int k0]) (n := 2) (Nat.le_of_ble_eq_true rfl)
  rw [lg_entry_eq]
  generalize (lg_sl ([.int v0, .int k0]) ++ List.replicate (2 - (lg_sl ([.int v0, .int k0])).length) Slot.unset).toArray = ls at hl ⊢
  have hl : lv_has ls 2 [(0, .int v0), (1, .int k0)] := hl
  have hP : va_P D vwCl [] s.heap := hP
  refine lv_iload_n hx hb dL_below_0 rfl (lv_at hl 0 rfl) ?_
  refine lv_ldc (v := 2147483647) hx hb hown (hts _ qw516) dL_below_1 ?_
  refine lv_topi (fun x_1 v_1 => ?_)
  have v_1 : x_1 = iI (2147483647) := v_1.trans (by decide)
  refine lv_iand hx hb dL_below_3 ?_
  refine lv_topi (fun x_3 e_3 => ?_)
  refine lv_iload_n hx hb dL_below_4 rfl (lv_at hl 1 rfl) ?_
  refine lv_irem hx hb dL_below_5 (iI_ne0 hkv hk0 hkb) ?_
  refine lv_topi (fun x_5 e_5 => ?_)
  have v_5 : x_5 = iI (↑(bel v0 k)) := by rw [e_5, e_3]; exact bel_rem v0 hkv v_1 hk0 hkb
  exact W.iret (v := x_5) hx hb hr (fun t ht hW => ⟨⟨x_5, (), rfl, v_5, trivial⟩, hS.F ht⟩) hS.2.2 dL_below_6
set_option maxHeartbeats 4000000 in
set_option maxRecDepth 100000 in
theorem k_L_cell (l : Launch) (D : va_G) (cI cZ cJ cK : ClassId) (hz9 : Nat) (bs : Nat) (k0 : Int32) (L : Nat) (xs : Nat → Int32) (k : Nat) (hkv : k0 = iI ↑k) (hk : k < 1000) (hL : L ≤ 260) : Met l yL_cell (ws_ yL_cell cL_cell 2 (Option.some .int)) ({ frames := 0, cells := 0, slots := 0, locals := 0 }) (va_Pc [.ref bs, .int k0] (wPreX bs L xs D cI cZ cJ cK hz9 [])) (va_Qi (fun r (_ : Unit) => True) (fun _ _ => True) (fun _ => False)) 0 0 (fun _ => False) := by
  refine Met.ofW (cc := cL_cell) (maxL := 2) (ret := (Option.some .int)) (by decide) rfl ?_
  intro p e s m args below meth c s₁ hBd hml hv
  obtain ⟨rfl, ⟨hsz, hP, hD, hK, hT, hZ⟩, hX⟩ := hv
  have hx := hBd.exec
  have hb := hBd.bytes
  have hr := hBd.returns
  have hts : ∀ w ∈ lw_G, w.before _ s = true := fun w h => atoms_spec (ws := (ws_ yL_cell cL_cell 2 (Option.some .int))) hBd.pre w (List.mem_cons_of_mem _ h)
  have hown : s.vm.findClass RL = some m.cls := findClass_of_methodNamed hBd.named
  have hlocks := hBd.notSynchronized
  subst hsz
  have hS : va_S (fun _ => False) s.heap s.heap [] := va_S.rf
  have hl := lv_entry ([.ref bs, .int k0]) (n := 2) (Nat.le_of_ble_eq_true rfl)
  rw [lg_entry_eq]
  generalize (lg_sl ([.ref bs, .int k0]) ++ List.replicate (2 - (lg_sl ([.ref bs, .int k0])).length) Slot.unset).toArray = ls at hl ⊢
  have hl : lv_has ls 2 [(0, .ref bs), (1, .int k0)] := hl
  have hP : va_P D vwCl [] s.heap := hP
  have hbl : bs < s.heap.size := by
    obtain ⟨c9, h9, -⟩ := hX
    exact (Array.getElem?_eq_some_iff.mp h9).1
  have hbA : ¬ (fun _ : Nat => False) bs := fun z => z
  refine lv_iload_n hx hb dL_cell_0 rfl (lv_at hl 1 rfl) ?_
  refine lv_aload_n hx hb dL_cell_1 rfl (lv_at hl 0 rfl) ?_
  refine va_slen hx hb hX hbl hbA hS dL_cell_2 ?_
  refine lv_topi (fun x_2 v_2 => ?_)
  have v_2 : x_2 = iI (↑L) := v_2.trans (nI_i L)
  refine lz_icmp_ge (tgt := 12) hx hb hkv v_2 ⟨by omega, by omega⟩ dL_cell_3 (by decide) (fun c_3 => ?_) (fun c_3 => ?_)
  · refine lv_ldc (v := 790386105) hx hb hown (hts _ qw520) dL_cell_12 ?_
    refine lv_topi (fun x_12 v_12 => ?_)
    have v_12 : x_12 = iI (790386105) := v_12.trans (by decide)
    refine lv_iload_n hx hb dL_cell_14 rfl (lv_at hl 1 rfl) ?_
    refine lz_iconst hx hb dL_cell_15 (fun x_15 v_15 => ?_)
    refine lz_iadd hx hb hkv v_15 dL_cell_16 (fun x_16 v_16 => ?_)
    refine lv_imul hx hb dL_cell_17 ?_
    refine lv_topi (fun x_17 e_17 => ?_)
    exact W.iret (v := x_17) hx hb hr (fun t ht hW => ⟨⟨x_17, (), rfl, trivial, trivial⟩, hS.F ht⟩) hS.2.2 dL_cell_18
  · refine lv_aload_n hx hb dL_cell_6 rfl (lv_at hl 0 rfl) ?_
    refine lv_iload_n hx hb dL_cell_7 rfl (lv_at hl 1 rfl) ?_
    refine lz_sld hx hb hX hbl hbA hS hkv (k) (by omega) (by omega) (by omega) dL_cell_8 (fun x_8 e_8 => ?_)
    refine lv_goto (tgt := 18) hx hb dL_cell_9 (by decide) ?_
    exact W.iret (v := x_8) hx hb hr (fun t ht hW => ⟨⟨x_8, (), rfl, trivial, trivial⟩, hS.F ht⟩) hS.2.2 dL_cell_18
set_option maxHeartbeats 4000000 in
set_option maxRecDepth 100000 in
theorem k_L_heatOf (l : Launch) (D : va_G) (cI cZ cJ cK : ClassId) (hz9 : Nat) (x0 : Int32) (l0 : Int32) (lo : Nat) (hlv : l0 = iI ↑lo) (hlo : lo < 1024) : Met l yL_heatOf (ws_ yL_heatOf cL_heatOf 3 (Option.some .int)) ({ frames := 1, cells := 0, slots := 0, locals := 21 }) (va_Pc [.int x0, .int l0] (wPre D cI cZ cJ cK hz9 [])) (va_Qi (fun r (_ : Unit) => (∃ x : Nat, r = iI (↑x) ∧ lo ≤ x ∧ x < 1024)) (fun _ _ => True) (fun _ => False)) 0 0 (fun _ => False) := by
  refine Met.ofW (cc := cL_heatOf) (maxL := 3) (ret := (Option.some .int)) (by decide) rfl ?_
  intro p e s m args below meth c s₁ hBd hml hv
  obtain ⟨rfl, hsz, hP, hD, hK, hT, hZ⟩ := hv
  have hx := hBd.exec
  have hb := hBd.bytes
  have hr := hBd.returns
  have hts : ∀ w ∈ lw_G, w.before _ s = true := fun w h => atoms_spec (ws := (ws_ yL_heatOf cL_heatOf 3 (Option.some .int))) hBd.pre w (List.mem_cons_of_mem _ h)
  have hown : s.vm.findClass RL = some m.cls := findClass_of_methodNamed hBd.named
  have hlocks := hBd.notSynchronized
  subst hsz
  have hS : va_S (fun _ => False) s.heap s.heap [] := va_S.rf
  have hl := lv_entry ([.int x0, .int l0]) (n := 3) (Nat.le_of_ble_eq_true rfl)
  rw [lg_entry_eq]
  generalize (lg_sl ([.int x0, .int l0]) ++ List.replicate (3 - (lg_sl ([.int x0, .int l0])).length) Slot.unset).toArray = ls at hl ⊢
  have hl : lv_has ls 3 [(0, .int x0), (1, .int l0)] := hl
  have hP : va_P D vwCl [] s.heap := hP
  refine lv_iload_n hx hb dL_heatOf_0 rfl (lv_at hl 0 rfl) ?_
  refine lz_iconst hx hb dL_heatOf_1 (fun x_1 v_1 => ?_)
  refine lv_ishr hx hb dL_heatOf_2 ?_
  refine lv_topi (fun x_2 e_2 => ?_)
  refine lz_iconst hx hb dL_heatOf_3 (fun x_3 v_3 => ?_)
  refine cr_i (va_runS (As := [.int x_2, .int x_3]) (rest := []) ⟨hx, hb, hml, hown, hts⟩ (k_L_below l D cI cZ cJ cK _ x_2 x_3 4 (v_3.trans (congrArg iI (by omega))) (by omega) (by omega)) (va_cwS 2 hts (gS qw513 qw514 qw9 qw515) rfl rfl rfl (by decide +kernel) ⟨Nat.le_of_ble_eq_true rfl, Nat.le_of_ble_eq_true rfl⟩) (ps hP hD hK hT hZ hS [] rfl rfl) rfl rfl hl.1 rfl (lv_room (Nat.le_of_ble_eq_true rfl)) dL_heatOf_4 ⟨Nat.le_of_ble_eq_true rfl, Nat.le_of_ble_eq_true rfl⟩) hS hP (fun x_4 H locs hw_4 hP hS => ?_)
  have hw_4 : (x_4 = iI (↑(bel x_2 4))) := hw_4
  have v_4 := hw_4
  have hb4 := bel_lt x_2 (show 0 < 4 by decide)
  refine lv_istore_n (lv' := [(2, .int x_4), (0, .int x0), (1, .int l0)]) hx hb dL_heatOf_7 rfl hl (by decide) rfl (fun ls hl => ?_)
  refine lv_iload_n hx hb dL_heatOf_8 rfl (lv_at hl 0 rfl) ?_
  refine lz_if_ne (tgt := 16) hx hb v_4 (by omega) dL_heatOf_9 (by decide) (fun c_9 => ?_) (fun c_9 => ?_)
  · refine lv_iload_n hx hb dL_heatOf_16 rfl (lv_at hl 2 rfl) ?_
    refine lv_iload_n hx hb dL_heatOf_17 rfl (lv_at hl 1 rfl) ?_
    refine lz_iconst hx hb dL_heatOf_18 (fun x_18 v_18 => ?_)
    refine lv_ishr hx hb dL_heatOf_19 ?_
    refine lv_topi (fun x_19 e_19 => ?_)
    refine lv_iload_n hx hb dL_heatOf_20 rfl (lv_at hl 0 rfl) ?_
    refine lz_iconst hx hb dL_heatOf_21 (fun x_21 v_21 => ?_)
    refine lz_icmp_ne (tgt := 33) hx hb v_4 v_21 ⟨by omega, by omega⟩ dL_heatOf_22 (by decide) (fun c_22 => ?_) (fun c_22 => ?_)
    · refine lz_sipush hx hb (by decide) dL_heatOf_33 (fun x_33 v_33 => ?_)
      refine lv_iload_n hx hb dL_heatOf_36 rfl (lv_at hl 2 rfl) ?_
      refine lz_isub hx hb v_33 hlv dL_heatOf_37 (fun x_37 v_37 => ?_)
      refine lz_bipush hx hb (by decide) dL_heatOf_38 (fun x_38 v_38 => ?_)
      refine lz_min hx hb (by rw [hml]; exact hl.1.symm) hown (hts _ qw591) (hts _ qw244) (hts _ qw20) (hts _ qw245) (Nat.le_of_ble_eq_true rfl) (Nat.le_of_ble_eq_true rfl) (Nat.le_of_ble_eq_true rfl) (Nat.le_of_ble_eq_true rfl) v_37 v_38 ⟨by omega, by omega⟩ dL_heatOf_40 (fun x_40 v_40 => ?_)
      refine cr_i (va_runS (As := [.int x_19, .int x_40]) (rest := [.int l0]) ⟨hx, hb, hml, hown, hts⟩ (k_L_below l D cI cZ cJ cK _ x_19 x_40 (min (1024 - lo) 40) (v_40.trans (congrArg iI (by omega))) (by omega) (by omega)) (va_cwS 2 hts (gS qw513 qw514 qw9 qw515) rfl rfl rfl (by decide +kernel) ⟨Nat.le_of_ble_eq_true rfl, Nat.le_of_ble_eq_true rfl⟩) (ps hP hD hK hT hZ hS [] rfl rfl) rfl rfl hl.1 rfl (lv_room (Nat.le_of_ble_eq_true rfl)) dL_heatOf_43 ⟨Nat.le_of_ble_eq_true rfl, Nat.le_of_ble_eq_true rfl⟩) hS hP (fun x_43 H locs hw_43 hP hS => ?_)
      have hw_43 : (x_43 = iI (↑(bel x_19 (min (1024 - lo) 40)))) := hw_43
      have v_43 := hw_43
      have hbl9 := bel_lt x_19 (k := (min (1024 - lo) 40)) (by omega)
      refine lz_iadd hx hb hlv v_43 dL_heatOf_46 (fun x_46 v_46 => ?_)
      exact W.iret (v := x_46) hx hb hr (fun t ht hW => ⟨⟨x_46, (), rfl, ⟨lo + (bel x_19 (min (1024 - lo) 40)), v_46.trans (congrArg iI (by omega)), by omega, by omega⟩, trivial⟩, hS.F ht⟩) hS.2.2 dL_heatOf_47
    · refine lz_sipush hx hb (by decide) dL_heatOf_25 (fun x_25 v_25 => ?_)
      refine lv_iload_n hx hb dL_heatOf_28 rfl (lv_at hl 2 rfl) ?_
      refine lz_isub hx hb v_25 hlv dL_heatOf_29 (fun x_29 v_29 => ?_)
      refine lv_goto (tgt := 43) hx hb dL_heatOf_30 (by decide) ?_
      refine cr_i (va_runS (As := [.int x_19, .int x_29]) (rest := [.int l0]) ⟨hx, hb, hml, hown, hts⟩ (k_L_below l D cI cZ cJ cK _ x_19 x_29 (1024 - lo) (v_29.trans (congrArg iI (by omega))) (by omega) (by omega)) (va_cwS 2 hts (gS qw513 qw514 qw9 qw515) rfl rfl rfl (by decide +kernel) ⟨Nat.le_of_ble_eq_true rfl, Nat.le_of_ble_eq_true rfl⟩) (ps hP hD hK hT hZ hS [] rfl rfl) rfl rfl hl.1 rfl (lv_room (Nat.le_of_ble_eq_true rfl)) dL_heatOf_43 ⟨Nat.le_of_ble_eq_true rfl, Nat.le_of_ble_eq_true rfl⟩) hS hP (fun x_43 H locs hw_43 hP hS => ?_)
      have hw_43 : (x_43 = iI (↑(bel x_19 (1024 - lo)))) := hw_43
      have v_43 := hw_43
      have hbl9 := bel_lt x_19 (k := (1024 - lo)) (by omega)
      refine lz_iadd hx hb hlv v_43 dL_heatOf_46 (fun x_46 v_46 => ?_)
      exact W.iret (v := x_46) hx hb hr (fun t ht hW => ⟨⟨x_46, (), rfl, ⟨lo + (bel x_19 (1024 - lo)), v_46.trans (congrArg iI (by omega)), by omega, by omega⟩, trivial⟩, hS.F ht⟩) hS.2.2 dL_heatOf_47
  · refine lv_iload_n hx hb dL_heatOf_12 rfl (lv_at hl 2 rfl) ?_
    refine lv_goto (tgt := 47) hx hb dL_heatOf_13 (by decide) ?_
    exact W.iret (v := l0) hx hb hr (fun t ht hW => ⟨⟨l0, (), rfl, ⟨lo, hlv, by omega, by omega⟩, trivial⟩, hS.F ht⟩) hS.2.2 dL_heatOf_47
set_option maxHeartbeats 4000000 in
set_option maxRecDepth 100000 in
theorem k_X4_takeOut_q (l : Launch) (D : va_G) (cI cZ cJ cK : ClassId) (hz9 : Nat) (t0 : Nat) (x0 : Int32) (lw : Nat) (rk : Nat) (hs : Nat) (em : Nat) (mt : Int32) (qn : Int32) (L : List Nat) (f : Nat → va_E) (h b : Nat) (eb : Nat) (n : Nat) (Hh : Nat → Nat) (mv : Nat → Int32) (rv : Nat → Int) (lo : Nat → Nat) (gk : Nat → Int32) (R : Nat → Nat → List Nat) (w9 : Nat) (M9 : List Nat) (hSQ : SimQ cI cJ cK n Hh mv rv lo gk R lw rk hs em L f w9 M9) (hxv : x0 = iI ↑eb) (hxb : eb < 1000) (hRb : ∀ h b, h < 2 → b < 11 → (∀ y ∈ R h b, y < 1000) ∧ (R h b).length ≤ 40) (hh2 : h < 2) (hb11 : b < 11) (heb : eb ∈ R h b) (huq : ∀ h2 b2, h2 < 2 → b2 < 11 → eb ∈ R h2 b2 → h2 = h ∧ b2 = b) : Met l yX4_takeOut (ws_ yX4_takeOut cX4_takeOut 3 (Option.none : Option Jvm.ClassFile.FieldType)) ({ frames := 2, cells := 42, slots := 1602, locals := 49 }) (va_Pc [.ref t0, .int x0] (wPre D cI cZ cJ cK hz9 ([(t0, .inr (4, [.ref lw, .ref rk, .ref hs, .ref em, .int mt, .int qn]))] ++ va_pl L f))) (va_Qv (fun (u : List Nat × (Nat → va_E)) => (SimQ cI cJ cK n Hh mv rv lo gk (va_up R h (va_up (R h) b ((R h b).filter (fun y => decide (y ≠ eb))))) lw rk hs em u.1 u.2 w9 M9)) (fun (u : List Nat × (Nat → va_E)) t => wPost D (va_A ([(t0, .inr (4, [.ref lw, .ref rk, .ref hs, .ref em, .int mt, .int qn]))] ++ va_pl L f) hz9) ([(t0, .inr (4, [.ref lw, .ref rk, .ref hs, .ref em, .int mt, .int qn]))] ++ va_pl u.1 u.2) t) (va_A ([(t0, .inr (4, [.ref lw, .ref rk, .ref hs, .ref em, .int mt, .int qn]))] ++ va_pl L f) hz9)) 42 1602 (va_A ([(t0, .inr (4, [.ref lw, .ref rk, .ref hs, .ref em, .int mt, .int qn]))] ++ va_pl L f) hz9) := by
  refine Met.ofW (cc := cX4_takeOut) (maxL := 3) (ret := (Option.none : Option Jvm.ClassFile.FieldType)) (by decide) rfl ?_
  intro p e s m args below meth c s₁ hBd hml hv
  obtain ⟨rfl, hsz, hP, hD, hK, hT, hZ⟩ := hv
  have hx := hBd.exec
  have hb := hBd.bytes
  have hr := hBd.returns
  have hts : ∀ w ∈ lw_G, w.before _ s = true := fun w h => atoms_spec (ws := (ws_ yX4_takeOut cX4_takeOut 3 (Option.none : Option Jvm.ClassFile.FieldType))) hBd.pre w (List.mem_cons_of_mem _ h)
  have hown : s.vm.findClass RX4 = some m.cls := findClass_of_methodNamed hBd.named
  have hlocks := hBd.notSynchronized
  subst hsz
  have hD := hD.self (sz := s.heap.size)
  have hZA := hZ.own hP
  generalize hAe : va_A ([(t0, .inr (4, [.ref lw, .ref rk, .ref hs, .ref em, .int mt, .int qn]))] ++ va_pl L f) s.heap.size = A at hD hZA ⊢
  have hA : ∀ q : Nat, s.heap.size ≤ q → A q := fun q h => by rw [← hAe]; exact Or.inr h
  have hZ := hZA
  have hS : va_S A s.heap s.heap [] := va_S.rf
  have hl := lv_entry ([.ref t0, .int x0]) (n := 3) (Nat.le_of_ble_eq_true rfl)
  rw [lg_entry_eq]
  generalize (lg_sl ([.ref t0, .int x0]) ++ List.replicate (3 - (lg_sl ([.ref t0, .int x0])).length) Slot.unset).toArray = ls at hl ⊢
  have hl : lv_has ls 3 [(0, .ref t0), (1, .int x0)] := hl
  have hP : va_P D vwCl ([(t0, .inr (4, [.ref lw, .ref rk, .ref hs, .ref em, .int mt, .int qn]))] ++ va_pl L f) s.heap := hP
  obtain ⟨K, ha, ea, rr, qS, qw, qk, qM⟩ := id hSQ
  obtain ⟨⟨lw1, lw2, gl, lw3, lw4⟩, ⟨rk1, rk2, gg, rk3, rk4⟩, ⟨hs1, hs2, gs, hs3, hs4⟩, ⟨em1, em2, ge, em3, em4⟩, q5, q6, q7⟩ := id qS
  obtain ⟨ha1, ha2, gh, ha3, ha4⟩ := q5 h hh2
  obtain ⟨rb1, rb2, rb3⟩ := q6 h b hh2 hb11
  refine lv_aload_n hx hb dX4_takeOut_0 rfl (lv_at hl 0 rfl) ?_
  refine lv_iload_n hx hb dX4_takeOut_1 rfl (lv_at hl 1 rfl) ?_
  refine cp_r (wr := []) (ws2 := fun u9 => ([(t0, .inr (4, [.ref lw, .ref rk, .ref hs, .ref em, .int mt, .int qn]))] ++ va_pl u9.1 u9.2)) (va_runV (As := [.int x0]) (rest := []) ⟨hx, hb, hml, hown, hts⟩ (k_X4_where l D cI cZ cJ cK _ t0 x0 lw rk hs em mt qn L f eb n Hh mv rv lo gk R (hSQ.P) (hxv.trans (congrArg iI (by omega))) (hxb) (hRb)) (cwV 1 hts (gV qw499 qw500 qw501 qw14 qw502) rfl rfl rfl (by decide +kernel) ⟨Nat.le_of_ble_eq_true rfl, Nat.le_of_ble_eq_true rfl⟩) (pvP (ci := 4) (r := (RX4, TX4, 6)) (q0 := 0) (wr := []) hP hD hK hT hZ hS (List.Perm.refl _) rfl rfl) rfl rfl hl.1 rfl (lv_room (Nat.le_of_ble_eq_true rfl)) dX4_takeOut_2 ⟨Nat.le_of_ble_eq_true rfl, Nat.le_of_ble_eq_true rfl⟩) hS hP hD hA (List.Perm.refl _) (fun _ => List.Perm.refl _) (fun x_2 u_2 H locs hw_2 hP hD hS => ?_)
  obtain ⟨L2_2, f2_2⟩ := u_2
  have hP : va_P D vwCl ([(t0, .inr (4, [.ref lw, .ref rk, .ref hs, .ref em, .int mt, .int qn]))] ++ va_pl L2_2 f2_2) H := hP
  have hD : va_D A ([(t0, .inr (4, [.ref lw, .ref rk, .ref hs, .ref em, .int mt, .int qn]))] ++ va_pl L2_2 f2_2) := hD
  have hw_2 : (pExt L f L2_2 f2_2) ∧ (x_2 ∈ L2_2) ∧ (x_2 ∉ L) ∧ (∃ g : Nat → Int32, f2_2 x_2 = .inl (cI, 2, .inl g) ∧ ((∃ h b, h < 2 ∧ b < 11 ∧ eb ∈ R h b ∧ g 0 = iI ↑h ∧ g 1 = iI ↑b) ∨ ((∀ h b, h < 2 → b < 11 → eb ∉ R h b) ∧ g 0 = iI (-1) ∧ g 1 = iI (-1)))) := hw_2
  obtain ⟨e_2, i_2, o_2, v_2⟩ := hw_2
  obtain ⟨gv, hfv, hgv⟩ := id v_2
  have hg01 : gv 0 = iI ↑h ∧ gv 1 = iI ↑b := by
    rcases hgv with ⟨h9, b9, z1, z2, z3, z4, z5⟩ | ⟨z1, -, -⟩
    · obtain ⟨y1, y2⟩ := huq h9 b9 z1 z2 z3
      rw [← y1, ← y2]
      exact ⟨z4, z5⟩
    · exact absurd heb (z1 h b hh2 hb11)
  refine lv_astore_n (lv' := [(2, .ref x_2), (0, .ref t0), (1, .int x0)]) hx hb dX4_takeOut_5 rfl hl (by decide) rfl (fun ls hl => ?_)
  refine lv_aload_n hx hb dX4_takeOut_6 rfl (lv_at hl 1 rfl) ?_
  refine va_get (D := D) (ci := 4) (v := .ref hs) (C := RX4) (T := TX4) (N := 6) hx hb hts iX4 hown hK hP 0 rfl rfl 2 (by decide) (hts _ qw619) (fun _ h9 => h9) rfl dX4_takeOut_7 ?_
  refine lv_aload_n hx hb dX4_takeOut_10 rfl (lv_at hl 0 rfl) ?_
  refine lz_iconst hx hb dX4_takeOut_11 (fun x_11 v_11 => ?_)
  refine rd_iald hx hb hK hP 0 (pl_mem i_2 hfv) rfl v_11 (0) (by omega) (by omega) (by omega) dX4_takeOut_12 (fun x_12 e_12 => ?_)
  have v_12 : x_12 = iI (↑h) := e_12.trans (hg01.1)
  refine rd_aald hx hb hK hP 3 (pl_mem (e_2 _ hs1).1 ((e_2 _ hs1).2.trans hs3)) rfl v_12 (h) (by omega) (by omega) (by omega) (hs4 _ (by omega)) dX4_takeOut_13 ?_
  refine lv_aload_n hx hb dX4_takeOut_14 rfl (lv_at hl 0 rfl) ?_
  refine lz_iconst hx hb dX4_takeOut_15 (fun x_15 v_15 => ?_)
  refine rd_iald hx hb hK hP 0 (pl_mem i_2 hfv) rfl v_15 (1) (by omega) (by omega) (by omega) dX4_takeOut_16 (fun x_16 e_16 => ?_)
  have v_16 : x_16 = iI (↑b) := e_16.trans (hg01.2)
  refine lv_aload_n hx hb dX4_takeOut_17 rfl (lv_at hl 1 rfl) ?_
  refine va_get (D := D) (ci := 4) (v := .ref hs) (C := RX4) (T := TX4) (N := 6) hx hb hts iX4 hown hK hP 0 rfl rfl 2 (by decide) (hts _ qw619) (fun _ h9 => h9) rfl dX4_takeOut_18 ?_
  refine lv_aload_n hx hb dX4_takeOut_21 rfl (lv_at hl 0 rfl) ?_
  refine lz_iconst hx hb dX4_takeOut_22 (fun x_22 v_22 => ?_)
  refine rd_iald hx hb hK hP 0 (pl_mem i_2 hfv) rfl v_22 (0) (by omega) (by omega) (by omega) dX4_takeOut_23 (fun x_23 e_23 => ?_)
  have v_23 : x_23 = iI (↑h) := e_23.trans (hg01.1)
  refine rd_aald hx hb hK hP 3 (pl_mem (e_2 _ hs1).1 ((e_2 _ hs1).2.trans hs3)) rfl v_23 (h) (by omega) (by omega) (by omega) (hs4 _ (by omega)) dX4_takeOut_24 ?_
  refine lv_aload_n hx hb dX4_takeOut_25 rfl (lv_at hl 0 rfl) ?_
  refine lz_iconst hx hb dX4_takeOut_26 (fun x_26 v_26 => ?_)
  refine rd_iald hx hb hK hP 0 (pl_mem i_2 hfv) rfl v_26 (1) (by omega) (by omega) (by omega) dX4_takeOut_27 (fun x_27 e_27 => ?_)
  have v_27 : x_27 = iI (↑b) := e_27.trans (hg01.2)
  refine rd_aald hx hb hK hP 2 (pl_mem (e_2 _ ha1).1 ((e_2 _ ha1).2.trans ha3)) rfl v_27 (b) (by omega) (by omega) (by omega) (ha4 _ (by omega)) dX4_takeOut_28 ?_
  refine lv_iload_n hx hb dX4_takeOut_29 rfl (lv_at hl 2 rfl) ?_
  refine cp_r (wr := [(t0, .inr (4, [.ref lw, .ref rk, .ref hs, .ref em, .int mt, .int qn]))]) (ws2 := fun u9 => ([(t0, .inr (4, [.ref lw, .ref rk, .ref hs, .ref em, .int mt, .int qn]))] ++ va_pl u9.1 u9.2)) (va_runS (As := [.ref (rr h b), .int x0]) (rest := [.int x_16, .ref (ha h)]) ⟨hx, hb, hml, hown, hts⟩ (k_X4_without l D cI cZ cJ cK _ (rr h b) x0 L2_2 f2_2 (R h b) eb ((e_2 _ rb1).1) (by rw [(e_2 _ rb1).2]; exact rb3) (hxv.trans (congrArg iI (by omega))) (hxb) ((hRb h b hh2 hb11).1) ((hRb h b hh2 hb11).2)) (va_cwS 2 hts (gS qw479 qw480 qw14 qw481) rfl rfl rfl (by decide +kernel) ⟨Nat.le_of_ble_eq_true rfl, Nat.le_of_ble_eq_true rfl⟩) (psP (wr := [(t0, .inr (4, [.ref lw, .ref rk, .ref hs, .ref em, .int mt, .int qn]))]) hP hD hK hT hZ hS (List.Perm.refl _)) rfl rfl hl.1 rfl (lv_room (Nat.le_of_ble_eq_true rfl)) dX4_takeOut_30 ⟨Nat.le_of_ble_eq_true rfl, Nat.le_of_ble_eq_true rfl⟩) hS hP hD hA (List.Perm.refl _) (fun _ => List.Perm.refl _) (fun x_30 u_30 H locs hw_30 hP hD hS => ?_)
  obtain ⟨L2_30, f2_30⟩ := u_30
  have hP : va_P D vwCl ([(t0, .inr (4, [.ref lw, .ref rk, .ref hs, .ref em, .int mt, .int qn]))] ++ va_pl L2_30 f2_30) H := hP
  have hD : va_D A ([(t0, .inr (4, [.ref lw, .ref rk, .ref hs, .ref em, .int mt, .int qn]))] ++ va_pl L2_30 f2_30) := hD
  have hw_30 : (pExt L2_2 f2_2 L2_30 f2_30) ∧ (x_30 ∈ L2_30) ∧ (x_30 ∉ L2_2) ∧ (rowE cI ((R h b).filter (fun y => decide (y ≠ eb))) (f2_30 x_30)) := hw_30
  obtain ⟨e_30, i_30, o_30, v_30⟩ := hw_30
  obtain ⟨gw, hfw, hgw⟩ := id v_30
  have hxx := e_2.tr e_30
  refine pl_aast hx hb hK hP hD hS (hxx _ ha1).1 ((hxx _ ha1).2.trans ha3) (pl_mem i_30 hfw) (comp_J hK hT) v_16 (b) (by omega) (by omega) (by omega) dX4_takeOut_33 (fun f_33 H locs e_33 hP hD hS => ?_)
  have hP : va_P D vwCl ([(t0, .inr (4, [.ref lw, .ref rk, .ref hs, .ref em, .int mt, .int qn]))] ++ va_pl L2_30 (va_up f2_30 (ha h) (.inl (cJ, 11, .inr (.inr (.inr (.inr f_33))))))) H := hP
  have hD : va_D A ([(t0, .inr (4, [.ref lw, .ref rk, .ref hs, .ref em, .int mt, .int qn]))] ++ va_pl L2_30 (va_up f2_30 (ha h) (.inl (cJ, 11, .inr (.inr (.inr (.inr f_33))))))) := hD
  have hP9 := hP
  have hD9 := hD
  refine W.widen (k := 42) (n := 1602) (by omega) (by omega) ?_
  exact W.vret hx hb hr (fun t ht hW => ⟨⟨⟨L2_30, (va_up f2_30 (ha h) (.inl (cJ, 11, .inr (.inr (.inr (.inr f_33))))))⟩, rfl, SimQ_put qS qw qk qM hxx i_30 (fun z => o_30 (e_2 _ z).1) v_30 hh2 hb11 ha3 e_33 rfl, ⟨by rw [ht]; exact hP9, hD9⟩⟩, hS.F ht⟩) hS.2.2 dX4_takeOut_34
