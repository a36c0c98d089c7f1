set_option maxHeartbeats 4000000 in
set_option maxRecDepth 100000 in
theorem k_X2_size (l : Launch) (D : va_G) (cI cZ cJ cK : ClassId) (hz9 : Nat) (w0 : Nat) (wa : Nat) (sz : Int32)   : Met l yX2_size (ws_ yX2_size cX2_size 1 (Option.some .int)) ({ frames := 0, cells := 0, slots := 0, locals := 0 }) (va_Pc [.ref w0] (wPre D cI cZ cJ cK hz9 [(w0, .inr (2, [.ref wa, .int sz]))])) (va_Qi (fun r (_ : Unit) => (r = sz)) (fun _ _ => True) (fun _ => False)) 0 0 (fun _ => False) := by
  refine Met.ofW (cc := cX2_size) (maxL := 1) (ret := (Option.some .int)) (by decide) rfl ?_
  intro p e s m args below meth c s₁ hBd hml hv
  obtain ⟨rfl, hsz, hP, hD, hK, hT, hZ⟩ := hv
  have hx := hBd.exec
  have hb := hBd.bytes
  have hr := hBd.returns
  have hts : ∀ w ∈ lw_G, w.before _ s = true := fun w h => atoms_spec (ws := (ws_ yX2_size cX2_size 1 (Option.some .int))) hBd.pre w (List.mem_cons_of_mem _ h)
  have hown : s.vm.findClass RX2 = some m.cls := findClass_of_methodNamed hBd.named
  have hlocks := hBd.notSynchronized
  subst hsz
  have hS : va_S (fun _ => False) s.heap s.heap [] := va_S.rf
  have hl := lv_entry ([.ref w0]) (n := 1) (Nat.le_of_ble_eq_true rfl)
  rw [lg_entry_eq]
  generalize (lg_sl ([.ref w0]) ++ List.replicate (1 - (lg_sl ([.ref w0])).length) Slot.unset).toArray = ls at hl ⊢
  have hl : lv_has ls 1 [(0, .ref w0)] := hl
  have hP : va_P D vwCl [(w0, .inr (2, [.ref wa, .int sz]))] s.heap := hP
  refine lv_aload_n hx hb dX2_size_0 rfl (lv_at hl 0 rfl) ?_
  refine va_get (D := D) (ci := 2) (v := .int sz) (C := RX2) (T := TX2) (N := 2) hx hb hts iX2 hown hK hP 0 rfl rfl 1 (by decide) (hts _ qw68) (fun _ h9 => h9) rfl dX2_size_1 ?_
  exact W.iret (v := sz) hx hb hr (fun t ht hW => ⟨⟨sz, (), rfl, rfl, trivial⟩, hS.F ht⟩) hS.2.2 dX2_size_4
set_option maxHeartbeats 4000000 in
set_option maxRecDepth 100000 in
theorem k_X2_at (l : Launch) (D : va_G) (cI cZ cJ cK : ClassId) (hz9 : Nat) (w0 : Nat) (k0 : Int32) (wa : Nat) (sz : Int32) (f : Nat → Int32) (L : List Nat) (k : Nat) (hrow : rowIs sz f L) (hkv : k0 = iI ↑k) (hkl : k < L.length) : Met l yX2_at (ws_ yX2_at cX2_at 2 (Option.some .int)) ({ frames := 0, cells := 0, slots := 0, locals := 0 }) (va_Pc [.ref w0, .int k0] (wPre D cI cZ cJ cK hz9 [(w0, .inr (2, [.ref wa, .int sz])), (wa, .inl (cI, 40, .inl f))])) (va_Qi (fun r (_ : Unit) => (r = iI (↑(L.getD k 0)))) (fun _ _ => True) (fun _ => False)) 0 0 (fun _ => False) := by
  refine Met.ofW (cc := cX2_at) (maxL := 2) (ret := (Option.some .int)) (by decide) rfl ?_
  intro p e s m args below meth c s₁ hBd hml hv
  obtain ⟨rfl, hsz, hP, hD, hK, hT, hZ⟩ := hv
  have hx := hBd.exec
  have hb := hBd.bytes
  have hr := hBd.returns
  have hts : ∀ w ∈ lw_G, w.before _ s = true := fun w h => atoms_spec (ws := (ws_ yX2_at cX2_at 2 (Option.some .int))) hBd.pre w (List.mem_cons_of_mem _ h)
  have hown : s.vm.findClass RX2 = some m.cls := findClass_of_methodNamed hBd.named
  have hlocks := hBd.notSynchronized
  subst hsz
  have hS : va_S (fun _ => False) s.heap s.heap [] := va_S.rf
  have hl := lv_entry ([.ref w0, .int k0]) (n := 2) (Nat.le_of_ble_eq_true rfl)
  rw [lg_entry_eq]
  generalize (lg_sl ([.ref w0, .int k0]) ++ List.replicate (2 - (lg_sl ([.ref w0, .int k0])).length) Slot.unset).toArray = ls at hl ⊢
  have hl : lv_has ls 2 [(0, .ref w0), (1, .int k0)] := hl
  have hP : va_P D vwCl [(w0, .inr (2, [.ref wa, .int sz])), (wa, .inl (cI, 40, .inl f))] s.heap := hP
  have hLn := hrow.2.1
  refine lv_iload_n hx hb dX2_at_0 rfl (lv_at hl 1 rfl) ?_
  refine lz_if_lt (tgt := 21) hx hb hkv (by omega) dX2_at_1 (by decide) (fun c_1 => ?_) (fun c_1 => ?_)
  · exfalso; omega
  · refine lv_iload_n hx hb dX2_at_4 rfl (lv_at hl 1 rfl) ?_
    refine lv_aload_n hx hb dX2_at_5 rfl (lv_at hl 0 rfl) ?_
    refine va_get (D := D) (ci := 2) (v := .int sz) (C := RX2) (T := TX2) (N := 2) hx hb hts iX2 hown hK hP 0 rfl rfl 1 (by decide) (hts _ qw68) (fun _ h9 => h9) rfl dX2_at_6 ?_
    refine lz_icmp_ge (tgt := 21) hx hb hkv hrow.1 ⟨by omega, by omega⟩ dX2_at_9 (by decide) (fun c_9 => ?_) (fun c_9 => ?_)
    · exfalso; omega
    · refine lv_aload_n hx hb dX2_at_12 rfl (lv_at hl 0 rfl) ?_
      refine va_get (D := D) (ci := 2) (v := .ref wa) (C := RX2) (T := TX2) (N := 2) hx hb hts iX2 hown hK hP 0 rfl rfl 0 (by decide) (hts _ qw67) (fun _ h9 => h9) rfl dX2_at_13 ?_
      refine lv_iload_n hx hb dX2_at_16 rfl (lv_at hl 1 rfl) ?_
      refine lz_iald hx hb hK hP 1 0 rfl rfl hkv (k) (by omega) (by omega) (by decide) dX2_at_17 (fun x_17 e_17 => ?_)
      have v_17 : x_17 = iI (↑(L.getD k 0)) := e_17.trans (hrow.2.2 _ (by omega))
      refine lv_goto (tgt := 22) hx hb dX2_at_18 (by decide) ?_
      exact W.iret (v := x_17) hx hb hr (fun t ht hW => ⟨⟨x_17, (), rfl, v_17, trivial⟩, hS.F ht⟩) hS.2.2 dX2_at_22
set_option maxHeartbeats 4000000 in
set_option maxRecDepth 100000 in
theorem k_X2_placeOf (l : Launch) (D : va_G) (cI cZ cJ cK : ClassId) (hz9 : Nat) (w0 : Nat) (x0 : Int32) (wa : Nat) (sz : Int32) (f : Nat → Int32) (L : List Nat) (x : Nat) (hrow : rowIs sz f L) (hxv : x0 = iI ↑x) (hxb : x < 1000) (hLb : ∀ y ∈ L, y < 1000) (hxL : x ∈ L) : Met l yX2_placeOf (ws_ yX2_placeOf cX2_placeOf 3 (Option.some .int)) ({ frames := 0, cells := 0, slots := 0, locals := 0 }) (va_Pc [.ref w0, .int x0] (wPre D cI cZ cJ cK hz9 [(w0, .inr (2, [.ref wa, .int sz])), (wa, .inl (cI, 40, .inl f))])) (va_Qi (fun r (_ : Unit) => (r = iI (↑(L.idxOf x)))) (fun _ _ => True) (fun _ => False)) 0 0 (fun _ => False) := by
  refine Met.ofW (cc := cX2_placeOf) (maxL := 3) (ret := (Option.some .int)) (by decide) rfl ?_
  intro p e s m args below meth c s₁ hBd hml hv
  obtain ⟨rfl, hsz, hP, hD, hK, hT, hZ⟩ := hv
  have hx := hBd.exec
  have hb := hBd.bytes
  have hr := hBd.returns
  have hts : ∀ w ∈ lw_G, w.before _ s = true := fun w h => atoms_spec (ws := (ws_ yX2_placeOf cX2_placeOf 3 (Option.some .int))) hBd.pre w (List.mem_cons_of_mem _ h)
  have hown : s.vm.findClass RX2 = some m.cls := findClass_of_methodNamed hBd.named
  have hlocks := hBd.notSynchronized
  subst hsz
  have hS : va_S (fun _ => False) s.heap s.heap [] := va_S.rf
  have hl := lv_entry ([.ref w0, .int x0]) (n := 3) (Nat.le_of_ble_eq_true rfl)
  rw [lg_entry_eq]
  generalize (lg_sl ([.ref w0, .int x0]) ++ List.replicate (3 - (lg_sl ([.ref w0, .int x0])).length) Slot.unset).toArray = ls at hl ⊢
  have hl : lv_has ls 3 [(0, .ref w0), (1, .int x0)] := hl
  have hP : va_P D vwCl [(w0, .inr (2, [.ref wa, .int sz])), (wa, .inl (cI, 40, .inl f))] s.heap := hP
  have hLn := hrow.2.1
  have hix : L.idxOf x < L.length := List.idxOf_lt_length_of_mem hxL
  refine lz_iconst hx hb dX2_placeOf_0 (fun x_0 v_0 => ?_)
  refine lv_istore_n (lv' := [(2, .int x_0), (0, .ref w0), (1, .int x0)]) hx hb dX2_placeOf_1 rfl hl (by decide) rfl (fun ls hl => ?_)
  have key2 : ∀ (fu : Nat) (i : Nat) (ii : Int32) (H : Heap) (locs : List Loc) (ls : Array Slot), L.length - i < fu → (ii = iI (↑i)) → (i ≤ L.idxOf x) → va_P D vwCl [(w0, .inr (2, [.ref wa, .int sz])), (wa, .inl (cI, 40, .inl f))] H → va_S (fun _ => False) s.heap H locs → lv_has ls 3 [(2, .int ii), (0, .ref w0), (1, .int x0)] → W p l e (headSpec (ws_ yX2_placeOf cX2_placeOf 3 (Option.some .int)) ({ frames := 0, cells := 0, slots := 0, locals := 0 })).room s m ([.ref w0, .int x0] : List Value).toArray below meth c H locs 0 0 (MQ below (va_Qi (fun r (_ : Unit) => (r = iI (↑(L.idxOf x)))) (fun _ _ => True) (fun _ => False)) ([.ref w0, .int x0] : List Value).toArray s 0 0 (fun _ => False)) (F0 m 2 ls []) := by
    intro fu
    induction fu with
    | zero => intros; omega
    | succ fu ih2 =>
      intro i ii H locs ls hfu hi hle hP hS hl
      refine lv_iload_n hx hb dX2_placeOf_2 rfl (lv_at hl 0 rfl) ?_
      refine lv_aload_n hx hb dX2_placeOf_3 rfl (lv_at hl 1 rfl) ?_
      refine va_get (D := D) (ci := 2) (v := .int sz) (C := RX2) (T := TX2) (N := 2) hx hb hts iX2 hown hK hP 0 rfl rfl 1 (by decide) (hts _ qw68) (fun _ h9 => h9) rfl dX2_placeOf_4 ?_
      refine lz_icmp_ge (tgt := 28) hx hb hi hrow.1 ⟨by omega, by omega⟩ dX2_placeOf_7 (by decide) (fun c_7 => ?_) (fun c_7 => ?_)
      · exfalso; omega
      · refine lv_aload_n hx hb dX2_placeOf_10 rfl (lv_at hl 1 rfl) ?_
        refine va_get (D := D) (ci := 2) (v := .ref wa) (C := RX2) (T := TX2) (N := 2) hx hb hts iX2 hown hK hP 0 rfl rfl 0 (by decide) (hts _ qw67) (fun _ h9 => h9) rfl dX2_placeOf_11 ?_
        refine lv_iload_n hx hb dX2_placeOf_14 rfl (lv_at hl 0 rfl) ?_
        have hgb := getD_bd hLb i
        refine lz_iald hx hb hK hP 1 0 rfl rfl hi (i) (by omega) (by omega) (by decide) dX2_placeOf_15 (fun x_15 e_15 => ?_)
        have v_15 : x_15 = iI (↑(L.getD i 0)) := e_15.trans (hrow.2.2 _ (by omega))
        refine lv_iload_n hx hb dX2_placeOf_16 rfl (lv_at hl 2 rfl) ?_
        refine lz_icmp_ne (tgt := 22) hx hb v_15 hxv ⟨by omega, by omega⟩ dX2_placeOf_17 (by decide) (fun c_17 => ?_) (fun c_17 => ?_)
        · refine lz_iinc (lv2 := fun z => [(2, .int z), (0, .ref w0), (1, .int x0)]) hx hb dX2_placeOf_22 hl (k := 0) rfl hi (by decide) (fun _ => rfl) (fun x_22 ls v_22 hl => ?_)
          refine lv_goto (tgt := 2) hx hb dX2_placeOf_25 (by decide) ?_
          exact ih2 (i + 1) x_22 _ _ _ (by omega) (v_22.trans (congrArg iI (by omega))) (idx_next hxL hle c_17) hP hS (lv_sub hl [0, 1, 2] rfl)
        · refine lv_iload_n hx hb dX2_placeOf_20 rfl (lv_at hl 0 rfl) ?_
          exact W.iret (v := ii) hx hb hr (fun t ht hW => ⟨⟨ii, (), rfl, hi.trans (congrArg iI (by rw [idx_here hle (by omega) c_17])), trivial⟩, hS.F ht⟩) hS.2.2 dX2_placeOf_21
  exact key2 _ 0 x_0 _ _ _ (Nat.lt_succ_self _) (v_0.trans (congrArg iI (by omega))) (Nat.zero_le _) hP hS (lv_sub hl [0, 1, 2] rfl)
set_option maxHeartbeats 4000000 in
set_option maxRecDepth 100000 in
theorem k_X2_insert (l : Launch) (D : va_G) (cI cZ cJ cK : ClassId) (hz9 : Nat) (w0 : Nat) (k0 : Int32) (x0 : Int32) (wa : Nat) (sz : Int32) (f : Nat → Int32) (L : List Nat) (k x : Nat) (hrow : rowIs sz f L) (hkv : k0 = iI ↑k) (hkl : k ≤ L.length) (hl4 : L.length < 40) (hxv : x0 = iI ↑x) : Met l yX2_insert (ws_ yX2_insert cX2_insert 3 (Option.none : Option Jvm.ClassFile.FieldType)) ({ frames := 1, cells := 0, slots := 0, locals := 30 }) (va_Pc [.ref w0, .int k0, .int x0] (wPre D cI cZ cJ cK hz9 [(w0, .inr (2, [.ref wa, .int sz])), (wa, .inl (cI, 40, .inl f))])) (va_Qv (fun (u : Int32 × (Nat → Int32)) => (rowIs u.1 u.2 (L.take k ++ x :: L.drop k))) (fun (u : Int32 × (Nat → Int32)) t => wPost D (va_A [(w0, .inr (2, [.ref wa, .int sz])), (wa, .inl (cI, 40, .inl f))] hz9) [(w0, .inr (2, [.ref wa, .int u.1])), (wa, .inl (cI, 40, .inl u.2))] t) (va_A [(w0, .inr (2, [.ref wa, .int sz])), (wa, .inl (cI, 40, .inl f))] hz9)) 0 0 (va_A [(w0, .inr (2, [.ref wa, .int sz])), (wa, .inl (cI, 40, .inl f))] hz9) := by
  refine Met.ofW (cc := cX2_insert) (maxL := 3) (ret := (Option.none : Option Jvm.ClassFile.FieldType)) (by decide) rfl ?_
  intro p e s m args below meth c s₁ hBd hml hv
  obtain ⟨rfl, hsz, hP, hD, hK, hT, hZ⟩ := hv
  have hx := hBd.exec
  have hb := hBd.bytes
  have hr := hBd.returns
  have hts : ∀ w ∈ lw_G, w.before _ s = true := fun w h => atoms_spec (ws := (ws_ yX2_insert cX2_insert 3 (Option.none : Option Jvm.ClassFile.FieldType))) hBd.pre w (List.mem_cons_of_mem _ h)
  have hown : s.vm.findClass RX2 = some m.cls := findClass_of_methodNamed hBd.named
  have hlocks := hBd.notSynchronized
  subst hsz
  have hD := hD.self (sz := s.heap.size)
  have hZA := hZ.own hP
  generalize hAe : va_A [(w0, .inr (2, [.ref wa, .int sz])), (wa, .inl (cI, 40, .inl f))] s.heap.size = A at hD hZA ⊢
  have hA : ∀ q : Nat, s.heap.size ≤ q → A q := fun q h => by rw [← hAe]; exact Or.inr h
  have hZ := hZA
  have hS : va_S A s.heap s.heap [] := va_S.rf
  have hl := lv_entry ([.ref w0, .int k0, .int x0]) (n := 3) (Nat.le_of_ble_eq_true rfl)
  rw [lg_entry_eq]
  generalize (lg_sl ([.ref w0, .int k0, .int x0]) ++ List.replicate (3 - (lg_sl ([.ref w0, .int k0, .int x0])).length) Slot.unset).toArray = ls at hl ⊢
  have hl : lv_has ls 3 [(0, .ref w0), (1, .int k0), (2, .int x0)] := hl
  have hP : va_P D vwCl [(w0, .inr (2, [.ref wa, .int sz])), (wa, .inl (cI, 40, .inl f))] s.heap := hP
  refine lv_iload_n hx hb dX2_insert_0 rfl (lv_at hl 1 rfl) ?_
  refine lz_if_lt (tgt := 21) hx hb hkv (by omega) dX2_insert_1 (by decide) (fun c_1 => ?_) (fun c_1 => ?_)
  · exfalso; omega
  · refine lv_iload_n hx hb dX2_insert_4 rfl (lv_at hl 1 rfl) ?_
    refine lv_aload_n hx hb dX2_insert_5 rfl (lv_at hl 0 rfl) ?_
    refine va_get (D := D) (ci := 2) (v := .int sz) (C := RX2) (T := TX2) (N := 2) hx hb hts iX2 hown hK hP 0 rfl rfl 1 (by decide) (hts _ qw68) (fun _ h9 => h9) rfl dX2_insert_6 ?_
    refine lz_icmp_gt (tgt := 21) hx hb hkv hrow.1 ⟨by omega, by omega⟩ dX2_insert_9 (by decide) (fun c_9 => ?_) (fun c_9 => ?_)
    · exfalso; omega
    · refine lv_aload_n hx hb dX2_insert_12 rfl (lv_at hl 0 rfl) ?_
      refine va_get (D := D) (ci := 2) (v := .int sz) (C := RX2) (T := TX2) (N := 2) hx hb hts iX2 hown hK hP 0 rfl rfl 1 (by decide) (hts _ qw68) (fun _ h9 => h9) rfl dX2_insert_13 ?_
      refine lz_bipush hx hb (by decide) dX2_insert_16 (fun x_16 v_16 => ?_)
      refine lz_icmp_lt (tgt := 22) hx hb hrow.1 v_16 ⟨by omega, by omega⟩ dX2_insert_18 (by decide) (fun c_18 => ?_) (fun c_18 => ?_)
      · refine lv_aload_n hx hb dX2_insert_22 rfl (lv_at hl 0 rfl) ?_
        refine va_get (D := D) (ci := 2) (v := .ref wa) (C := RX2) (T := TX2) (N := 2) hx hb hts iX2 hown hK hP 0 rfl rfl 0 (by decide) (hts _ qw67) (fun _ h9 => h9) rfl dX2_insert_23 ?_
        refine lv_iload_n hx hb dX2_insert_26 rfl (lv_at hl 1 rfl) ?_
        refine lv_aload_n hx hb dX2_insert_27 rfl (lv_at hl 0 rfl) ?_
        refine va_get (D := D) (ci := 2) (v := .ref wa) (C := RX2) (T := TX2) (N := 2) hx hb hts iX2 hown hK hP 0 rfl rfl 0 (by decide) (hts _ qw67) (fun _ h9 => h9) rfl dX2_insert_28 ?_
        refine lv_iload_n hx hb dX2_insert_31 rfl (lv_at hl 1 rfl) ?_
        refine lz_iconst hx hb dX2_insert_32 (fun x_32 v_32 => ?_)
        refine lz_iadd hx hb hkv v_32 dX2_insert_33 (fun x_33 v_33 => ?_)
        refine lv_aload_n hx hb dX2_insert_34 rfl (lv_at hl 0 rfl) ?_
        refine va_get (D := D) (ci := 2) (v := .int sz) (C := RX2) (T := TX2) (N := 2) hx hb hts iX2 hown hK hP 0 rfl rfl 1 (by decide) (hts _ qw68) (fun _ h9 => h9) rfl dX2_insert_35 ?_
        refine lv_iload_n hx hb dX2_insert_38 rfl (lv_at hl 1 rfl) ?_
        refine lz_isub hx hb hrow.1 hkv dX2_insert_39 (fun x_39 v_39 => ?_)
        refine lz_copy hx hb (by rw [hml]; exact hl.1.symm) hown (hts _ qw258) (hts _ qw260) (hts _ qw259) (hts _ qw21) hK hP hD hS 1 1 0 0 rfl rfl rfl rfl hkv v_33 v_39 (k) (k + 1) (L.length - k) (by omega) (by omega) (by omega) (by omega) (by omega) ⟨by decide, by decide⟩ (Nat.le_of_ble_eq_true rfl) (Nat.le_of_ble_eq_true rfl) (ws2 := fun z => [(w0, .inr (2, [.ref wa, .int sz])), (wa, .inl (cI, 40, .inl z))]) (fun _ => rfl) dX2_insert_40 (fun f_40 H locs e_40 hP hD hS => ?_)
        have hP : va_P D vwCl [(w0, .inr (2, [.ref wa, .int sz])), (wa, .inl (cI, 40, .inl f_40))] H := hP
        have hD : va_D A [(w0, .inr (2, [.ref wa, .int sz])), (wa, .inl (cI, 40, .inl f_40))] := hD
        refine lv_aload_n hx hb dX2_insert_43 rfl (lv_at hl 0 rfl) ?_
        refine va_get (D := D) (ci := 2) (v := .ref wa) (C := RX2) (T := TX2) (N := 2) hx hb hts iX2 hown hK hP 0 rfl rfl 0 (by decide) (hts _ qw67) (fun _ h9 => h9) rfl dX2_insert_44 ?_
        refine lv_iload_n hx hb dX2_insert_47 rfl (lv_at hl 1 rfl) ?_
        refine lv_iload_n hx hb dX2_insert_48 rfl (lv_at hl 2 rfl) ?_
        refine lz_iast hx hb hK hP hD hS 1 0 rfl rfl hkv (k) (by omega) (by omega) (by decide) (ws2 := fun z => [(w0, .inr (2, [.ref wa, .int sz])), (wa, .inl (cI, 40, .inl z))]) (fun _ => rfl) dX2_insert_49 (fun f_49 H locs e_49 hP hD hS => ?_)
        have hP : va_P D vwCl [(w0, .inr (2, [.ref wa, .int sz])), (wa, .inl (cI, 40, .inl f_49))] H := hP
        have hD : va_D A [(w0, .inr (2, [.ref wa, .int sz])), (wa, .inl (cI, 40, .inl f_49))] := hD
        refine lv_aload_n hx hb dX2_insert_50 rfl (lv_at hl 0 rfl) ?_
        refine lv_dup hx hb dX2_insert_51 rfl ?_
        refine va_get (D := D) (ci := 2) (v := .int sz) (C := RX2) (T := TX2) (N := 2) hx hb hts iX2 hown hK hP 0 rfl rfl 1 (by decide) (hts _ qw68) (fun _ h9 => h9) rfl dX2_insert_52 ?_
        refine lz_iconst hx hb dX2_insert_55 (fun x_55 v_55 => ?_)
        refine lz_iadd hx hb hrow.1 v_55 dX2_insert_56 (fun x_56 v_56 => ?_)
        refine va_put (D := D) (ci := 2) (v := .int x_56) (ty := .int) (C := RX2) (T := TX2) (N := 2) hx hb hts iX2 tyX2 tyX2_ok nmX2 hown hK hP hD hS 0 rfl rfl 1 (by decide) (hts _ qw68) (fun _ h9 => h9) rfl (by decide +kernel) rfl rfl (Nat.le_of_ble_eq_true rfl) dX2_insert_57 (fun H locs hP hD hS => ?_)
        have hP : va_P D vwCl [(w0, .inr (2, [.ref wa, .int x_56])), (wa, .inl (cI, 40, .inl f_49))] H := hP
        have hD : va_D A [(w0, .inr (2, [.ref wa, .int x_56])), (wa, .inl (cI, 40, .inl f_49))] := hD
        have hP9 := va_P_subm (ws' := [(w0, .inr (2, [.ref wa, .int x_56])), (wa, .inl (cI, 40, .inl f_49))]) hP [0, 1] rfl
        have hD9 := hD.sub (ws' := [(w0, .inr (2, [.ref wa, .int x_56])), (wa, .inl (cI, 40, .inl f_49))]) [0, 1] rfl rfl
        exact W.vret hx hb hr (fun t ht hW => ⟨⟨⟨x_56, f_49⟩, rfl, rowIs_ins hrow hkl hl4 e_40 e_49 hxv v_56, ⟨by rw [ht]; exact hP9, hD9⟩⟩, hS.F ht⟩) hS.2.2 dX2_insert_60
      · exfalso; omega
set_option maxHeartbeats 4000000 in
set_option maxRecDepth 100000 in
theorem k_X2_removeAt (l : Launch) (D : va_G) (cI cZ cJ cK : ClassId) (hz9 : Nat) (w0 : Nat) (k0 : Int32) (wa : Nat) (sz : Int32) (f : Nat → Int32) (L : List Nat) (k : Nat) (hrow : rowIs sz f L) (hkv : k0 = iI ↑k) (hkl : k < L.length) : Met l yX2_removeAt (ws_ yX2_removeAt cX2_removeAt 2 (Option.none : Option Jvm.ClassFile.FieldType)) ({ frames := 1, cells := 0, slots := 0, locals := 30 }) (va_Pc [.ref w0, .int k0] (wPre D cI cZ cJ cK hz9 [(w0, .inr (2, [.ref wa, .int sz])), (wa, .inl (cI, 40, .inl f))])) (va_Qv (fun (u : Int32 × (Nat → Int32)) => (rowIs u.1 u.2 (L.take k ++ L.drop (k + 1)))) (fun (u : Int32 × (Nat → Int32)) t => wPost D (va_A [(w0, .inr (2, [.ref wa, .int sz])), (wa, .inl (cI, 40, .inl f))] hz9) [(w0, .inr (2, [.ref wa, .int u.1])), (wa, .inl (cI, 40, .inl u.2))] t) (va_A [(w0, .inr (2, [.ref wa, .int sz])), (wa, .inl (cI, 40, .inl f))] hz9)) 0 0 (va_A [(w0, .inr (2, [.ref wa, .int sz])), (wa, .inl (cI, 40, .inl f))] hz9) := by
  refine Met.ofW (cc := cX2_removeAt) (maxL := 2) (ret := (Option.none : Option Jvm.ClassFile.FieldType)) (by decide) rfl ?_
  intro p e s m args below meth c s₁ hBd hml hv
  obtain ⟨rfl, hsz, hP, hD, hK, hT, hZ⟩ := hv
  have hx := hBd.exec
  have hb := hBd.bytes
  have hr := hBd.returns
  have hts : ∀ w ∈ lw_G, w.before _ s = true := fun w h => atoms_spec (ws := (ws_ yX2_removeAt cX2_removeAt 2 (Option.none : Option Jvm.ClassFile.FieldType))) hBd.pre w (List.mem_cons_of_mem _ h)
  have hown : s.vm.findClass RX2 = some m.cls := findClass_of_methodNamed hBd.named
  have hlocks := hBd.notSynchronized
  subst hsz
  have hD := hD.self (sz := s.heap.size)
  have hZA := hZ.own hP
  generalize hAe : va_A [(w0, .inr (2, [.ref wa, .int sz])), (wa, .inl (cI, 40, .inl f))] s.heap.size = A at hD hZA ⊢
  have hA : ∀ q : Nat, s.heap.size ≤ q → A q := fun q h => by rw [← hAe]; exact Or.inr h
  have hZ := hZA
  have hS : va_S A s.heap s.heap [] := va_S.rf
  have hl := lv_entry ([.ref w0, .int k0]) (n := 2) (Nat.le_of_ble_eq_true rfl)
  rw [lg_entry_eq]
  generalize (lg_sl ([.ref w0, .int k0]) ++ List.replicate (2 - (lg_sl ([.ref w0, .int k0])).length) Slot.unset).toArray = ls at hl ⊢
  have hl : lv_has ls 2 [(0, .ref w0), (1, .int k0)] := hl
  have hP : va_P D vwCl [(w0, .inr (2, [.ref wa, .int sz])), (wa, .inl (cI, 40, .inl f))] s.heap := hP
  have hLn := hrow.2.1
  refine lv_iload_n hx hb dX2_removeAt_0 rfl (lv_at hl 1 rfl) ?_
  refine lz_if_lt (tgt := 12) hx hb hkv (by omega) dX2_removeAt_1 (by decide) (fun c_1 => ?_) (fun c_1 => ?_)
  · exfalso; omega
  · refine lv_iload_n hx hb dX2_removeAt_4 rfl (lv_at hl 1 rfl) ?_
    refine lv_aload_n hx hb dX2_removeAt_5 rfl (lv_at hl 0 rfl) ?_
    refine va_get (D := D) (ci := 2) (v := .int sz) (C := RX2) (T := TX2) (N := 2) hx hb hts iX2 hown hK hP 0 rfl rfl 1 (by decide) (hts _ qw68) (fun _ h9 => h9) rfl dX2_removeAt_6 ?_
    refine lz_icmp_lt (tgt := 13) hx hb hkv hrow.1 ⟨by omega, by omega⟩ dX2_removeAt_9 (by decide) (fun c_9 => ?_) (fun c_9 => ?_)
    · refine lv_aload_n hx hb dX2_removeAt_13 rfl (lv_at hl 0 rfl) ?_
      refine lv_dup hx hb dX2_removeAt_14 rfl ?_
      refine va_get (D := D) (ci := 2) (v := .int sz) (C := RX2) (T := TX2) (N := 2) hx hb hts iX2 hown hK hP 0 rfl rfl 1 (by decide) (hts _ qw68) (fun _ h9 => h9) rfl dX2_removeAt_15 ?_
      refine lz_iconst hx hb dX2_removeAt_18 (fun x_18 v_18 => ?_)
      refine lz_isub hx hb hrow.1 v_18 dX2_removeAt_19 (fun x_19 v_19 => ?_)
      refine va_put (D := D) (ci := 2) (v := .int x_19) (ty := .int) (C := RX2) (T := TX2) (N := 2) hx hb hts iX2 tyX2 tyX2_ok nmX2 hown hK hP hD hS 0 rfl rfl 1 (by decide) (hts _ qw68) (fun _ h9 => h9) rfl (by decide +kernel) rfl rfl (Nat.le_of_ble_eq_true rfl) dX2_removeAt_20 (fun H locs hP hD hS => ?_)
      have hP : va_P D vwCl [(w0, .inr (2, [.ref wa, .int x_19])), (wa, .inl (cI, 40, .inl f))] H := hP
      have hD : va_D A [(w0, .inr (2, [.ref wa, .int x_19])), (wa, .inl (cI, 40, .inl f))] := hD
      refine lv_aload_n hx hb dX2_removeAt_23 rfl (lv_at hl 0 rfl) ?_
      refine va_get (D := D) (ci := 2) (v := .ref wa) (C := RX2) (T := TX2) (N := 2) hx hb hts iX2 hown hK hP 0 rfl rfl 0 (by decide) (hts _ qw67) (fun _ h9 => h9) rfl dX2_removeAt_24 ?_
      refine lv_iload_n hx hb dX2_removeAt_27 rfl (lv_at hl 1 rfl) ?_
      refine lz_iconst hx hb dX2_removeAt_28 (fun x_28 v_28 => ?_)
      refine lz_iadd hx hb hkv v_28 dX2_removeAt_29 (fun x_29 v_29 => ?_)
      refine lv_aload_n hx hb dX2_removeAt_30 rfl (lv_at hl 0 rfl) ?_
      refine va_get (D := D) (ci := 2) (v := .ref wa) (C := RX2) (T := TX2) (N := 2) hx hb hts iX2 hown hK hP 0 rfl rfl 0 (by decide) (hts _ qw67) (fun _ h9 => h9) rfl dX2_removeAt_31 ?_
      refine lv_iload_n hx hb dX2_removeAt_34 rfl (lv_at hl 1 rfl) ?_
      refine lv_aload_n hx hb dX2_removeAt_35 rfl (lv_at hl 0 rfl) ?_
      refine va_get (D := D) (ci := 2) (v := .int x_19) (C := RX2) (T := TX2) (N := 2) hx hb hts iX2 hown hK hP 0 rfl rfl 1 (by decide) (hts _ qw68) (fun _ h9 => h9) rfl dX2_removeAt_36 ?_
      refine lv_iload_n hx hb dX2_removeAt_39 rfl (lv_at hl 1 rfl) ?_
      refine lz_isub hx hb v_19 hkv dX2_removeAt_40 (fun x_40 v_40 => ?_)
      refine lz_copy hx hb (by rw [hml]; exact hl.1.symm) hown (hts _ qw258) (hts _ qw260) (hts _ qw259) (hts _ qw21) hK hP hD hS 1 1 0 0 rfl rfl rfl rfl v_29 hkv v_40 (k + 1) (k) (L.length - 1 - k) (by omega) (by omega) (by omega) (by omega) (by omega) ⟨by decide, by decide⟩ (Nat.le_of_ble_eq_true rfl) (Nat.le_of_ble_eq_true rfl) (ws2 := fun z => [(w0, .inr (2, [.ref wa, .int x_19])), (wa, .inl (cI, 40, .inl z))]) (fun _ => rfl) dX2_removeAt_41 (fun f_41 H locs e_41 hP hD hS => ?_)
      have hP : va_P D vwCl [(w0, .inr (2, [.ref wa, .int x_19])), (wa, .inl (cI, 40, .inl f_41))] H := hP
      have hD : va_D A [(w0, .inr (2, [.ref wa, .int x_19])), (wa, .inl (cI, 40, .inl f_41))] := hD
      have hP9 := va_P_subm (ws' := [(w0, .inr (2, [.ref wa, .int x_19])), (wa, .inl (cI, 40, .inl f_41))]) hP [0, 1] rfl
      have hD9 := hD.sub (ws' := [(w0, .inr (2, [.ref wa, .int x_19])), (wa, .inl (cI, 40, .inl f_41))]) [0, 1] rfl rfl
      exact W.vret hx hb hr (fun t ht hW => ⟨⟨⟨x_19, f_41⟩, rfl, rowIs_rem hrow hkl e_41 v_19, ⟨by rw [ht]; exact hP9, hD9⟩⟩, hS.F ht⟩) hS.2.2 dX2_removeAt_44
    · exfalso; omega
set_option maxHeartbeats 4000000 in
set_option maxRecDepth 100000 in
theorem k_X2_becomeLike (l : Launch) (D : va_G) (cI cZ cJ cK : ClassId) (hz9 : Nat) (w0 : Nat) (v0 : Nat) (wa : Nat) (sz : Int32) (f : Nat → Int32) (va : Nat) (sy : Int32) (g : Nat → Int32) (L : List Nat) (hrow : rowIs sy g L) : Met l yX2_becomeLike (ws_ yX2_becomeLike cX2_becomeLike 2 (Option.none : Option Jvm.ClassFile.FieldType)) ({ frames := 1, cells := 0, slots := 0, locals := 30 }) (va_Pc [.ref w0, .ref v0] (wPre D cI cZ cJ cK hz9 [(w0, .inr (2, [.ref wa, .int sz])), (wa, .inl (cI, 40, .inl f)), (v0, .inr (2, [.ref va, .int sy])), (va, .inl (cI, 40, .inl g))])) (va_Qv (fun (u : Int32 × (Nat → Int32)) => (rowIs u.1 u.2 L)) (fun (u : Int32 × (Nat → Int32)) t => wPost D (va_A [(w0, .inr (2, [.ref wa, .int sz])), (wa, .inl (cI, 40, .inl f)), (v0, .inr (2, [.ref va, .int sy])), (va, .inl (cI, 40, .inl g))] hz9) [(w0, .inr (2, [.ref wa, .int u.1])), (wa, .inl (cI, 40, .inl u.2)), (v0, .inr (2, [.ref va, .int sy])), (va, .inl (cI, 40, .inl g))] t) (va_A [(w0, .inr (2, [.ref wa, .int sz])), (wa, .inl (cI, 40, .inl f)), (v0, .inr (2, [.ref va, .int sy])), (va, .inl (cI, 40, .inl g))] hz9)) 0 0 (va_A [(w0, .inr (2, [.ref wa, .int sz])), (wa, .inl (cI, 40, .inl f)), (v0, .inr (2, [.ref va, .int sy])), (va, .inl (cI, 40, .inl g))] hz9) := by
  refine Met.ofW (cc := cX2_becomeLike) (maxL := 2) (ret := (Option.none : Option Jvm.ClassFile.FieldType)) (by decide) rfl ?_
  intro p e s m args below meth c s₁ hBd hml hv
  obtain ⟨rfl, hsz, hP, hD, hK, hT, hZ⟩ := hv
  have hx := hBd.exec
  have hb := hBd.bytes
  have hr := hBd.returns
  have hts : ∀ w ∈ lw_G, w.before _ s = true := fun w h => atoms_spec (ws := (ws_ yX2_becomeLike cX2_becomeLike 2 (Option.none : Option Jvm.ClassFile.FieldType))) hBd.pre w (List.mem_cons_of_mem _ h)
  have hown : s.vm.findClass RX2 = some m.cls := findClass_of_methodNamed hBd.named
  have hlocks := hBd.notSynchronized
  subst hsz
  have hD := hD.self (sz := s.heap.size)
  have hZA := hZ.own hP
  generalize hAe : va_A [(w0, .inr (2, [.ref wa, .int sz])), (wa, .inl (cI, 40, .inl f)), (v0, .inr (2, [.ref va, .int sy])), (va, .inl (cI, 40, .inl g))] s.heap.size = A at hD hZA ⊢
  have hA : ∀ q : Nat, s.heap.size ≤ q → A q := fun q h => by rw [← hAe]; exact Or.inr h
  have hZ := hZA
  have hS : va_S A s.heap s.heap [] := va_S.rf
  have hl := lv_entry ([.ref w0, .ref v0]) (n := 2) (Nat.le_of_ble_eq_true rfl)
  rw [lg_entry_eq]
  generalize (lg_sl ([.ref w0, .ref v0]) ++ List.replicate (2 - (lg_sl ([.ref w0, .ref v0])).length) Slot.unset).toArray = ls at hl ⊢
  have hl : lv_has ls 2 [(0, .ref w0), (1, .ref v0)] := hl
  have hP : va_P D vwCl [(w0, .inr (2, [.ref wa, .int sz])), (wa, .inl (cI, 40, .inl f)), (v0, .inr (2, [.ref va, .int sy])), (va, .inl (cI, 40, .inl g))] s.heap := hP
  have hLn := hrow.2.1
  refine lv_aload_n hx hb dX2_becomeLike_0 rfl (lv_at hl 1 rfl) ?_
  refine va_get (D := D) (ci := 2) (v := .ref va) (C := RX2) (T := TX2) (N := 2) hx hb hts iX2 hown hK hP 2 rfl rfl 0 (by decide) (hts _ qw67) (fun _ h9 => h9) rfl dX2_becomeLike_1 ?_
  refine lz_iconst hx hb dX2_becomeLike_4 (fun x_4 v_4 => ?_)
  refine lv_aload_n hx hb dX2_becomeLike_5 rfl (lv_at hl 0 rfl) ?_
  refine va_get (D := D) (ci := 2) (v := .ref wa) (C := RX2) (T := TX2) (N := 2) hx hb hts iX2 hown hK hP 0 rfl rfl 0 (by decide) (hts _ qw67) (fun _ h9 => h9) rfl dX2_becomeLike_6 ?_
  refine lz_iconst hx hb dX2_becomeLike_9 (fun x_9 v_9 => ?_)
  refine lv_aload_n hx hb dX2_becomeLike_10 rfl (lv_at hl 1 rfl) ?_
  refine va_get (D := D) (ci := 2) (v := .int sy) (C := RX2) (T := TX2) (N := 2) hx hb hts iX2 hown hK hP 2 rfl rfl 1 (by decide) (hts _ qw68) (fun _ h9 => h9) rfl dX2_becomeLike_11 ?_
  refine lz_copy hx hb (by rw [hml]; exact hl.1.symm) hown (hts _ qw258) (hts _ qw260) (hts _ qw259) (hts _ qw21) hK hP hD hS 3 1 0 0 rfl rfl rfl rfl v_4 v_9 hrow.1 (0) (0) (L.length) (by omega) (by omega) (by omega) (by omega) (by omega) ⟨by decide, by decide⟩ (Nat.le_of_ble_eq_true rfl) (Nat.le_of_ble_eq_true rfl) (ws2 := fun z => [(w0, .inr (2, [.ref wa, .int sz])), (wa, .inl (cI, 40, .inl z)), (v0, .inr (2, [.ref va, .int sy])), (va, .inl (cI, 40, .inl g))]) (fun _ => rfl) dX2_becomeLike_14 (fun f_14 H locs e_14 hP hD hS => ?_)
  have hP : va_P D vwCl [(w0, .inr (2, [.ref wa, .int sz])), (wa, .inl (cI, 40, .inl f_14)), (v0, .inr (2, [.ref va, .int sy])), (va, .inl (cI, 40, .inl g))] H := hP
  have hD : va_D A [(w0, .inr (2, [.ref wa, .int sz])), (wa, .inl (cI, 40, .inl f_14)), (v0, .inr (2, [.ref va, .int sy])), (va, .inl (cI, 40, .inl g))] := hD
  refine lv_aload_n hx hb dX2_becomeLike_17 rfl (lv_at hl 0 rfl) ?_
  refine lv_aload_n hx hb dX2_becomeLike_18 rfl (lv_at hl 1 rfl) ?_
  refine va_get (D := D) (ci := 2) (v := .int sy) (C := RX2) (T := TX2) (N := 2) hx hb hts iX2 hown hK hP 2 rfl rfl 1 (by decide) (hts _ qw68) (fun _ h9 => h9) rfl dX2_becomeLike_19 ?_
  refine va_put (D := D) (ci := 2) (v := .int sy) (ty := .int) (C := RX2) (T := TX2) (N := 2) hx hb hts iX2 tyX2 tyX2_ok nmX2 hown hK hP hD hS 0 rfl rfl 1 (by decide) (hts _ qw68) (fun _ h9 => h9) rfl (by decide +kernel) rfl rfl (Nat.le_of_ble_eq_true rfl) dX2_becomeLike_22 (fun H locs hP hD hS => ?_)
  have hP : va_P D vwCl [(w0, .inr (2, [.ref wa, .int sy])), (wa, .inl (cI, 40, .inl f_14)), (v0, .inr (2, [.ref va, .int sy])), (va, .inl (cI, 40, .inl g))] H := hP
  have hD : va_D A [(w0, .inr (2, [.ref wa, .int sy])), (wa, .inl (cI, 40, .inl f_14)), (v0, .inr (2, [.ref va, .int sy])), (va, .inl (cI, 40, .inl g))] := hD
  have hP9 := va_P_subm (ws' := [(w0, .inr (2, [.ref wa, .int sy])), (wa, .inl (cI, 40, .inl f_14)), (v0, .inr (2, [.ref va, .int sy])), (va, .inl (cI, 40, .inl g))]) hP [0, 1, 2, 3] rfl
  have hD9 := hD.sub (ws' := [(w0, .inr (2, [.ref wa, .int sy])), (wa, .inl (cI, 40, .inl f_14)), (v0, .inr (2, [.ref va, .int sy])), (va, .inl (cI, 40, .inl g))]) [0, 1, 2, 3] rfl rfl
  exact W.vret hx hb hr (fun t ht hW => ⟨⟨⟨sy, f_14⟩, rfl, rowIs_like (sz := sy) (f := f) hrow e_14 rfl, ⟨by rw [ht]; exact hP9, hD9⟩⟩, hS.F ht⟩) hS.2.2 dX2_becomeLike_25
set_option maxHeartbeats 4000000 in
set_option maxRecDepth 100000 in
theorem k_X2_becomeFirstOf (l : Launch) (D : va_G) (cI cZ cJ cK : ClassId) (hz9 : Nat) (w0 : Nat) (v0 : Nat) (k0 : Int32) (wa : Nat) (sz : Int32) (f : Nat → Int32) (va : Nat) (sy : Int32) (g : Nat → Int32) (L : List Nat) (k : Nat) (hrow : rowIs sy g L) (hkv : k0 = iI ↑k) (hkl : k ≤ L.length) : Met l yX2_becomeFirstOf (ws_ yX2_becomeFirstOf cX2_becomeFirstOf 3 (Option.none : Option Jvm.ClassFile.FieldType)) ({ frames := 1, cells := 0, slots := 0, locals := 30 }) (va_Pc [.ref w0, .ref v0, .int k0] (wPre D cI cZ cJ cK hz9 [(w0, .inr (2, [.ref wa, .int sz])), (wa, .inl (cI, 40, .inl f)), (v0, .inr (2, [.ref va, .int sy])), (va, .inl (cI, 40, .inl g))])) (va_Qv (fun (u : Int32 × (Nat → Int32) × Int32 × (Nat → Int32)) => (rowIs u.1 u.2.1 (L.take k)) ∧ (rowIs u.2.2.1 u.2.2.2 (L.drop k))) (fun (u : Int32 × (Nat → Int32) × Int32 × (Nat → Int32)) t => wPost D (va_A [(w0, .inr (2, [.ref wa, .int sz])), (wa, .inl (cI, 40, .inl f)), (v0, .inr (2, [.ref va, .int sy])), (va, .inl (cI, 40, .inl g))] hz9) [(w0, .inr (2, [.ref wa, .int u.1])), (wa, .inl (cI, 40, .inl u.2.1)), (v0, .inr (2, [.ref va, .int u.2.2.1])), (va, .inl (cI, 40, .inl u.2.2.2))] t) (va_A [(w0, .inr (2, [.ref wa, .int sz])), (wa, .inl (cI, 40, .inl f)), (v0, .inr (2, [.ref va, .int sy])), (va, .inl (cI, 40, .inl g))] hz9)) 0 0 (va_A [(w0, .inr (2, [.ref wa, .int sz])), (wa, .inl (cI, 40, .inl f)), (v0, .inr (2, [.ref va, .int sy])), (va, .inl (cI, 40, .inl g))] hz9) := by
  refine Met.ofW (cc := cX2_becomeFirstOf) (maxL := 3) (ret := (Option.none : Option Jvm.ClassFile.FieldType)) (by decide) rfl ?_
  intro p e s m args below meth c s₁ hBd hml hv
  obtain ⟨rfl, hsz, hP, hD, hK, hT, hZ⟩ := hv
  have hx := hBd.exec
  have hb := hBd.bytes
  have hr := hBd.returns
  have hts : ∀ w ∈ lw_G, w.before _ s = true := fun w h => atoms_spec (ws := (ws_ yX2_becomeFirstOf cX2_becomeFirstOf 3 (Option.none : Option Jvm.ClassFile.FieldType))) hBd.pre w (List.mem_cons_of_mem _ h)
  have hown : s.vm.findClass RX2 = some m.cls := findClass_of_methodNamed hBd.named
  have hlocks := hBd.notSynchronized
  subst hsz
  have hD := hD.self (sz := s.heap.size)
  have hZA := hZ.own hP
  generalize hAe : va_A [(w0, .inr (2, [.ref wa, .int sz])), (wa, .inl (cI, 40, .inl f)), (v0, .inr (2, [.ref va, .int sy])), (va, .inl (cI, 40, .inl g))] s.heap.size = A at hD hZA ⊢
  have hA : ∀ q : Nat, s.heap.size ≤ q → A q := fun q h => by rw [← hAe]; exact Or.inr h
  have hZ := hZA
  have hS : va_S A s.heap s.heap [] := va_S.rf
  have hl := lv_entry ([.ref w0, .ref v0, .int k0]) (n := 3) (Nat.le_of_ble_eq_true rfl)
  rw [lg_entry_eq]
  generalize (lg_sl ([.ref w0, .ref v0, .int k0]) ++ List.replicate (3 - (lg_sl ([.ref w0, .ref v0, .int k0])).length) Slot.unset).toArray = ls at hl ⊢
  have hl : lv_has ls 3 [(0, .ref w0), (1, .ref v0), (2, .int k0)] := hl
  have hP : va_P D vwCl [(w0, .inr (2, [.ref wa, .int sz])), (wa, .inl (cI, 40, .inl f)), (v0, .inr (2, [.ref va, .int sy])), (va, .inl (cI, 40, .inl g))] s.heap := hP
  have hLn := hrow.2.1
  refine lv_iload_n hx hb dX2_becomeFirstOf_0 rfl (lv_at hl 2 rfl) ?_
  refine lz_if_lt (tgt := 12) hx hb hkv (by omega) dX2_becomeFirstOf_1 (by decide) (fun c_1 => ?_) (fun c_1 => ?_)
  · exfalso; omega
  · refine lv_iload_n hx hb dX2_becomeFirstOf_4 rfl (lv_at hl 2 rfl) ?_
    refine lv_aload_n hx hb dX2_becomeFirstOf_5 rfl (lv_at hl 1 rfl) ?_
    refine va_get (D := D) (ci := 2) (v := .int sy) (C := RX2) (T := TX2) (N := 2) hx hb hts iX2 hown hK hP 2 rfl rfl 1 (by decide) (hts _ qw68) (fun _ h9 => h9) rfl dX2_becomeFirstOf_6 ?_
    refine lz_icmp_le (tgt := 13) hx hb hkv hrow.1 ⟨by omega, by omega⟩ dX2_becomeFirstOf_9 (by decide) (fun c_9 => ?_) (fun c_9 => ?_)
    · refine lv_aload_n hx hb dX2_becomeFirstOf_13 rfl (lv_at hl 1 rfl) ?_
      refine va_get (D := D) (ci := 2) (v := .ref va) (C := RX2) (T := TX2) (N := 2) hx hb hts iX2 hown hK hP 2 rfl rfl 0 (by decide) (hts _ qw67) (fun _ h9 => h9) rfl dX2_becomeFirstOf_14 ?_
      refine lz_iconst hx hb dX2_becomeFirstOf_17 (fun x_17 v_17 => ?_)
      refine lv_aload_n hx hb dX2_becomeFirstOf_18 rfl (lv_at hl 0 rfl) ?_
      refine va_get (D := D) (ci := 2) (v := .ref wa) (C := RX2) (T := TX2) (N := 2) hx hb hts iX2 hown hK hP 0 rfl rfl 0 (by decide) (hts _ qw67) (fun _ h9 => h9) rfl dX2_becomeFirstOf_19 ?_
      refine lz_iconst hx hb dX2_becomeFirstOf_22 (fun x_22 v_22 => ?_)
      refine lv_iload_n hx hb dX2_becomeFirstOf_23 rfl (lv_at hl 2 rfl) ?_
      refine lz_copy hx hb (by rw [hml]; exact hl.1.symm) hown (hts _ qw258) (hts _ qw260) (hts _ qw259) (hts _ qw21) hK hP hD hS 3 1 0 0 rfl rfl rfl rfl v_17 v_22 hkv (0) (0) (k) (by omega) (by omega) (by omega) (by omega) (by omega) ⟨by decide, by decide⟩ (Nat.le_of_ble_eq_true rfl) (Nat.le_of_ble_eq_true rfl) (ws2 := fun z => [(w0, .inr (2, [.ref wa, .int sz])), (wa, .inl (cI, 40, .inl z)), (v0, .inr (2, [.ref va, .int sy])), (va, .inl (cI, 40, .inl g))]) (fun _ => rfl) dX2_becomeFirstOf_24 (fun f_24 H locs e_24 hP hD hS => ?_)
      have hP : va_P D vwCl [(w0, .inr (2, [.ref wa, .int sz])), (wa, .inl (cI, 40, .inl f_24)), (v0, .inr (2, [.ref va, .int sy])), (va, .inl (cI, 40, .inl g))] H := hP
      have hD : va_D A [(w0, .inr (2, [.ref wa, .int sz])), (wa, .inl (cI, 40, .inl f_24)), (v0, .inr (2, [.ref va, .int sy])), (va, .inl (cI, 40, .inl g))] := hD
      refine lv_aload_n hx hb dX2_becomeFirstOf_27 rfl (lv_at hl 0 rfl) ?_
      refine lv_iload_n hx hb dX2_becomeFirstOf_28 rfl (lv_at hl 2 rfl) ?_
      refine va_put (D := D) (ci := 2) (v := .int k0) (ty := .int) (C := RX2) (T := TX2) (N := 2) hx hb hts iX2 tyX2 tyX2_ok nmX2 hown hK hP hD hS 0 rfl rfl 1 (by decide) (hts _ qw68) (fun _ h9 => h9) rfl (by decide +kernel) rfl rfl (Nat.le_of_ble_eq_true rfl) dX2_becomeFirstOf_29 (fun H locs hP hD hS => ?_)
      have hP : va_P D vwCl [(w0, .inr (2, [.ref wa, .int k0])), (wa, .inl (cI, 40, .inl f_24)), (v0, .inr (2, [.ref va, .int sy])), (va, .inl (cI, 40, .inl g))] H := hP
      have hD : va_D A [(w0, .inr (2, [.ref wa, .int k0])), (wa, .inl (cI, 40, .inl f_24)), (v0, .inr (2, [.ref va, .int sy])), (va, .inl (cI, 40, .inl g))] := hD
      refine lv_aload_n hx hb dX2_becomeFirstOf_32 rfl (lv_at hl 1 rfl) ?_
      refine lv_dup hx hb dX2_becomeFirstOf_33 rfl ?_
      refine va_get (D := D) (ci := 2) (v := .int sy) (C := RX2) (T := TX2) (N := 2) hx hb hts iX2 hown hK hP 2 rfl rfl 1 (by decide) (hts _ qw68) (fun _ h9 => h9) rfl dX2_becomeFirstOf_34 ?_
      refine lv_iload_n hx hb dX2_becomeFirstOf_37 rfl (lv_at hl 2 rfl) ?_
      refine lz_isub hx hb hrow.1 hkv dX2_becomeFirstOf_38 (fun x_38 v_38 => ?_)
      refine va_put (D := D) (ci := 2) (v := .int x_38) (ty := .int) (C := RX2) (T := TX2) (N := 2) hx hb hts iX2 tyX2 tyX2_ok nmX2 hown hK hP hD hS 2 rfl rfl 1 (by decide) (hts _ qw68) (fun _ h9 => h9) rfl (by decide +kernel) rfl rfl (Nat.le_of_ble_eq_true rfl) dX2_becomeFirstOf_39 (fun H locs hP hD hS => ?_)
      have hP : va_P D vwCl [(w0, .inr (2, [.ref wa, .int k0])), (wa, .inl (cI, 40, .inl f_24)), (v0, .inr (2, [.ref va, .int x_38])), (va, .inl (cI, 40, .inl g))] H := hP
      have hD : va_D A [(w0, .inr (2, [.ref wa, .int k0])), (wa, .inl (cI, 40, .inl f_24)), (v0, .inr (2, [.ref va, .int x_38])), (va, .inl (cI, 40, .inl g))] := hD
      refine lv_aload_n hx hb dX2_becomeFirstOf_42 rfl (lv_at hl 1 rfl) ?_
      refine va_get (D := D) (ci := 2) (v := .ref va) (C := RX2) (T := TX2) (N := 2) hx hb hts iX2 hown hK hP 2 rfl rfl 0 (by decide) (hts _ qw67) (fun _ h9 => h9) rfl dX2_becomeFirstOf_43 ?_
      refine lv_iload_n hx hb dX2_becomeFirstOf_46 rfl (lv_at hl 2 rfl) ?_
      refine lv_aload_n hx hb dX2_becomeFirstOf_47 rfl (lv_at hl 1 rfl) ?_
      refine va_get (D := D) (ci := 2) (v := .ref va) (C := RX2) (T := TX2) (N := 2) hx hb hts iX2 hown hK hP 2 rfl rfl 0 (by decide) (hts _ qw67) (fun _ h9 => h9) rfl dX2_becomeFirstOf_48 ?_
      refine lz_iconst hx hb dX2_becomeFirstOf_51 (fun x_51 v_51 => ?_)
      refine lv_aload_n hx hb dX2_becomeFirstOf_52 rfl (lv_at hl 1 rfl) ?_
      refine va_get (D := D) (ci := 2) (v := .int x_38) (C := RX2) (T := TX2) (N := 2) hx hb hts iX2 hown hK hP 2 rfl rfl 1 (by decide) (hts _ qw68) (fun _ h9 => h9) rfl dX2_becomeFirstOf_53 ?_
      refine lz_copy hx hb (by rw [hml]; exact hl.1.symm) hown (hts _ qw258) (hts _ qw260) (hts _ qw259) (hts _ qw21) hK hP hD hS 3 3 0 0 rfl rfl rfl rfl hkv v_51 v_38 (k) (0) (L.length - k) (by omega) (by omega) (by omega) (by omega) (by omega) ⟨by decide, by decide⟩ (Nat.le_of_ble_eq_true rfl) (Nat.le_of_ble_eq_true rfl) (ws2 := fun z => [(w0, .inr (2, [.ref wa, .int k0])), (wa, .inl (cI, 40, .inl f_24)), (v0, .inr (2, [.ref va, .int x_38])), (va, .inl (cI, 40, .inl z))]) (fun _ => rfl) dX2_becomeFirstOf_56 (fun f_56 H locs e_56 hP hD hS => ?_)
      have hP : va_P D vwCl [(w0, .inr (2, [.ref wa, .int k0])), (wa, .inl (cI, 40, .inl f_24)), (v0, .inr (2, [.ref va, .int x_38])), (va, .inl (cI, 40, .inl f_56))] H := hP
      have hD : va_D A [(w0, .inr (2, [.ref wa, .int k0])), (wa, .inl (cI, 40, .inl f_24)), (v0, .inr (2, [.ref va, .int x_38])), (va, .inl (cI, 40, .inl f_56))] := hD
      have hP9 := va_P_subm (ws' := [(w0, .inr (2, [.ref wa, .int k0])), (wa, .inl (cI, 40, .inl f_24)), (v0, .inr (2, [.ref va, .int x_38])), (va, .inl (cI, 40, .inl f_56))]) hP [0, 1, 2, 3] rfl
      have hD9 := hD.sub (ws' := [(w0, .inr (2, [.ref wa, .int k0])), (wa, .inl (cI, 40, .inl f_24)), (v0, .inr (2, [.ref va, .int x_38])), (va, .inl (cI, 40, .inl f_56))]) [0, 1, 2, 3] rfl rfl
      exact W.vret hx hb hr (fun t ht hW => ⟨⟨⟨k0, f_24, x_38, f_56⟩, rfl, ⟨rowIs_take hrow hkl e_24 hkv, rowIs_drop hrow hkl e_56 v_38⟩, ⟨by rw [ht]; exact hP9, hD9⟩⟩, hS.F ht⟩) hS.2.2 dX2_becomeFirstOf_59
    · exfalso; omega
