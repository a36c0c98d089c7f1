set_option maxHeartbeats 4000000 in
set_option maxRecDepth 100000 in
theorem k_X3_light_0 (l : Launch) (hl0 : l.stackTraces = false) (D : va_G) (cI cZ cJ cK : ClassId) (hz9 : Nat) (r0 : Nat) (h0 : Int32) (x0 : Int32) (e0 : Nat) (z0 : Nat) (o0 : Nat) (t0 : Nat) (qn : Int32) (eh : Nat) (eo : Nat) (ev : Nat) (er : Nat) (el : Int32) (fh : Nat → Int32) (fo : Nat → Int32) (zn : Int32) (zw : Nat) (zv : Nat) (zs : Nat) (zl : Int32) (zm : Int32) (zk : Int32) (zwa : Nat) (zsz : Int32) (zf : Nat → Int32) (zsf : Nat → Int32) (lo n : Nat) (Hh : Nat → Nat) (L : List Nat) (x : Int) (hem : embIs el fh n Hh) (hhe : heaIs zl zsz zf zsf lo n Hh L) (hhv : h0 = iI (0)) (hxv : x0 = iI x) (hxr : -2147483648 ≤ x ∧ x < 2147483648) (hLn : L.length ≤ n) : vx_Met l yX3_light (ws_ yX3_light cX3_light 5 (Option.some .int)) ({ frames := 6, cells := 1, slots := 6, locals := 82 }) (va_Pc [.ref r0, .int h0, .int x0] (wPre D cI cZ cJ cK hz9 [(r0, .inr (3, [.ref e0, .ref z0, .ref o0, .ref t0, .int qn])), (e0, .inr (0, [.ref eh, .ref eo, .ref ev, .ref er, .int el])), (eh, .inl (cI, 40, .inl fh)), (eo, .inl (cI, 40, .inl fo)), (z0, .inr (1, [.ref e0, .int zn, .ref zw, .ref zv, .ref zs, .int zl, .int zm, .int zk])), (zw, .inr (2, [.ref zwa, .int zsz])), (zwa, .inl (cI, 40, .inl zf)), (zs, .inl (cI, 11, .inl zsf))])) (va_Qi (fun r (u : Int32 × (Nat → Int32) × (Nat → Int32) × Int32 × (Nat → Int32) × (Nat → Int32)) => (r = iI (↑n)) ∧ (((↑lo : Int) ≤ x ∧ x ≤ 1023) ∧ n < 40) ∧ (embIs u.1 u.2.1 (n + 1) (va_up Hh n x.toNat)) ∧ (u.2.2.1 = upd fo n (iI (0))) ∧ (heaIs zl u.2.2.2.1 u.2.2.2.2.1 u.2.2.2.2.2 lo (n + 1) (va_up Hh n x.toNat) (ins (ka lo (va_up Hh n x.toNat)) L n))) (fun (u : Int32 × (Nat → Int32) × (Nat → Int32) × Int32 × (Nat → Int32) × (Nat → Int32)) t => wPost D (va_A [(r0, .inr (3, [.ref e0, .ref z0, .ref o0, .ref t0, .int qn])), (e0, .inr (0, [.ref eh, .ref eo, .ref ev, .ref er, .int el])), (eh, .inl (cI, 40, .inl fh)), (eo, .inl (cI, 40, .inl fo)), (z0, .inr (1, [.ref e0, .int zn, .ref zw, .ref zv, .ref zs, .int zl, .int zm, .int zk])), (zw, .inr (2, [.ref zwa, .int zsz])), (zwa, .inl (cI, 40, .inl zf)), (zs, .inl (cI, 11, .inl zsf))] hz9) [(r0, .inr (3, [.ref e0, .ref z0, .ref o0, .ref t0, .int qn])), (e0, .inr (0, [.ref eh, .ref eo, .ref ev, .ref er, .int u.1])), (eh, .inl (cI, 40, .inl u.2.1)), (eo, .inl (cI, 40, .inl u.2.2.1)), (z0, .inr (1, [.ref e0, .int zn, .ref zw, .ref zv, .ref zs, .int zl, .int zm, .int zk])), (zw, .inr (2, [.ref zwa, .int u.2.2.2.1])), (zwa, .inl (cI, 40, .inl u.2.2.2.2.1)), (zs, .inl (cI, 11, .inl u.2.2.2.2.2))] t) (va_A [(r0, .inr (3, [.ref e0, .ref z0, .ref o0, .ref t0, .int qn])), (e0, .inr (0, [.ref eh, .ref eo, .ref ev, .ref er, .int el])), (eh, .inl (cI, 40, .inl fh)), (eo, .inl (cI, 40, .inl fo)), (z0, .inr (1, [.ref e0, .int zn, .ref zw, .ref zv, .ref zs, .int zl, .int zm, .int zk])), (zw, .inr (2, [.ref zwa, .int zsz])), (zwa, .inl (cI, 40, .inl zf)), (zs, .inl (cI, 11, .inl zsf))] hz9)) (vx_X (fun (_ : Unit) => True) (fun E _ _ => (E = xA ∧ ¬ ((↑lo : Int) ≤ x ∧ x ≤ 1023)) ∨ (E = xS ∧ ((↑lo : Int) ≤ x ∧ x ≤ 1023) ∧ ¬ n < 40)) (fun _ => False)) 1 6 (va_A [(r0, .inr (3, [.ref e0, .ref z0, .ref o0, .ref t0, .int qn])), (e0, .inr (0, [.ref eh, .ref eo, .ref ev, .ref er, .int el])), (eh, .inl (cI, 40, .inl fh)), (eo, .inl (cI, 40, .inl fo)), (z0, .inr (1, [.ref e0, .int zn, .ref zw, .ref zv, .ref zs, .int zl, .int zm, .int zk])), (zw, .inr (2, [.ref zwa, .int zsz])), (zwa, .inl (cI, 40, .inl zf)), (zs, .inl (cI, 11, .inl zsf))] hz9) := by
  refine vx_ofW (cc := cX3_light) (maxL := 5) (ret := (Option.some .int)) (by decide) rfl ?_
  intro p e s m args below meth c s₁ hBd hml hext hv
  obtain ⟨rfl, hsz, hP, hD, hK, hT, hZ⟩ := hv
  have hx := hBd.exec
  have hb := hBd.bytes
  have hr := hBd.returns
  have hts : ∀ w ∈ lw_G, w.before _ s = true := fun w h => atoms_spec (ws := (ws_ yX3_light cX3_light 5 (Option.some .int))) hBd.pre w (List.mem_cons_of_mem _ h)
  have hown : s.vm.findClass RX3 = some m.cls := findClass_of_methodNamed hBd.named
  have hlocks := hBd.notSynchronized
  subst hsz
  have hD := hD.self (sz := s.heap.size)
  have hZA := hZ.own hP
  generalize hAe : va_A [(r0, .inr (3, [.ref e0, .ref z0, .ref o0, .ref t0, .int qn])), (e0, .inr (0, [.ref eh, .ref eo, .ref ev, .ref er, .int el])), (eh, .inl (cI, 40, .inl fh)), (eo, .inl (cI, 40, .inl fo)), (z0, .inr (1, [.ref e0, .int zn, .ref zw, .ref zv, .ref zs, .int zl, .int zm, .int zk])), (zw, .inr (2, [.ref zwa, .int zsz])), (zwa, .inl (cI, 40, .inl zf)), (zs, .inl (cI, 11, .inl zsf))] s.heap.size = A at hD hZA ⊢
  have hA : ∀ q : Nat, s.heap.size ≤ q → A q := fun q h => by rw [← hAe]; exact Or.inr h
  have hS : va_S (fun _ => False) s.heap s.heap [] := va_S.rf
  have hl := lv_entry ([.ref r0, .int h0, .int x0]) (n := 5) (Nat.le_of_ble_eq_true rfl)
  rw [lg_entry_eq]
  generalize (lg_sl ([.ref r0, .int h0, .int x0]) ++ List.replicate (5 - (lg_sl ([.ref r0, .int h0, .int x0])).length) Slot.unset).toArray = ls at hl ⊢
  have hl : lv_has ls 5 [(0, .ref r0), (1, .int h0), (2, .int x0)] := hl
  have hP : va_P D vwCl [(r0, .inr (3, [.ref e0, .ref z0, .ref o0, .ref t0, .int qn])), (e0, .inr (0, [.ref eh, .ref eo, .ref ev, .ref er, .int el])), (eh, .inl (cI, 40, .inl fh)), (eo, .inl (cI, 40, .inl fo)), (z0, .inr (1, [.ref e0, .int zn, .ref zw, .ref zv, .ref zs, .int zl, .int zm, .int zk])), (zw, .inr (2, [.ref zwa, .int zsz])), (zwa, .inl (cI, 40, .inl zf)), (zs, .inl (cI, 11, .inl zsf))] s.heap := hP
  obtain ⟨hn, hn4, hfh⟩ := id hem
  obtain ⟨hlo, hlo4, hrow, hsz, hLx⟩ := id hhe
  refine lv_aload_n hx hb dX3_light_0 rfl (lv_at hl 0 rfl) ?_
  refine lv_iload_n hx hb dX3_light_1 rfl (lv_at hl 1 rfl) ?_
  refine cr_r (va_runV (As := [.int h0]) (rest := []) ⟨hx, hb, hml, hown, hts⟩ (k_X3_hearthOf_0 l D cI cZ cJ cK _ r0 h0 e0 z0 o0 t0 qn (hhv.trans (congrArg iI (by omega)))) (cwV 1 hts (gV qw119 qw121 qw0 qw10 qw122) rfl rfl rfl (by decide +kernel) ⟨Nat.le_of_ble_eq_true rfl, Nat.le_of_ble_eq_true rfl⟩) (pv (ci := 3) (r := (RX3, TX3, 5)) (q0 := 0) hP hD hK hT hZ hS [0] rfl rfl rfl rfl) rfl rfl hl.1 rfl (lv_room (Nat.le_of_ble_eq_true rfl)) dX3_light_2 ⟨Nat.le_of_ble_eq_true rfl, Nat.le_of_ble_eq_true rfl⟩) hS hP (fun x_2 H locs hw_2 hP hS => ?_)
  have hw_2 : (x_2 = z0) := hw_2
  have v_2 := hw_2
  have v_2 := v_2.symm
  subst v_2
  refine lv_astore_n (lv' := [(3, .ref z0), (0, .ref r0), (1, .int h0), (2, .int x0)]) hx hb dX3_light_5 rfl hl (by decide) rfl (fun ls hl => ?_)
  refine lv_aload_n hx hb dX3_light_6 rfl (lv_at hl 0 rfl) ?_
  refine lv_iload_n hx hb dX3_light_7 rfl (lv_at hl 3 rfl) ?_
  refine cr_i (va_runV (As := [.int x0]) (rest := []) ⟨hx, hb, hml, hown, hts⟩ (k_X1_takesHeat l D cI cZ cJ cK _ z0 x0 e0 zn zw zv zs zl zm zk lo x (hlo) (hlo4) (hxv) (hxr)) (cwV 1 hts (gV qw323 qw324 qw325 qw12 qw326) rfl rfl rfl (by decide +kernel) ⟨Nat.le_of_ble_eq_true rfl, Nat.le_of_ble_eq_true rfl⟩) (pv (ci := 1) (r := (RX1, TX1, 8)) (q0 := 4) hP hD hK hT hZ hS [4] rfl rfl rfl rfl) rfl rfl hl.1 rfl (lv_room (Nat.le_of_ble_eq_true rfl)) dX3_light_8 ⟨Nat.le_of_ble_eq_true rfl, Nat.le_of_ble_eq_true rfl⟩) hS hP (fun x_8 H locs hw_8 hP hS => ?_)
  have hw_8 : (x_8 = iI (if (↑lo : Int) ≤ x ∧ x ≤ 1023 then 1 else 0)) := hw_8
  have v_8 := hw_8
  refine lz_if_ne (tgt := 24) hx hb v_8 (by omega) dX3_light_11 (by decide) (fun c_11 => ?_) (fun c_11 => ?_)
  · refine lv_aload_n hx hb dX3_light_24 rfl (lv_at hl 1 rfl) ?_
    refine va_get (D := D) (ci := 3) (v := .ref e0) (C := RX3) (T := TX3) (N := 5) hx hb hts iX3 hown hK hP 0 rfl rfl 0 (by decide) (hts _ qw99) (fun _ h9 => h9) rfl dX3_light_25 ?_
    refine cr_i (va_runV (As := []) (rest := []) ⟨hx, hb, hml, hown, hts⟩ (k_X0_lit l D cI cZ cJ cK _ e0 eh eo ev er el ) (cwV 0 hts (gV qw401 qw402 qw403 qw11 qw404) rfl rfl rfl (by decide +kernel) ⟨Nat.le_of_ble_eq_true rfl, Nat.le_of_ble_eq_true rfl⟩) (pv (ci := 0) (r := (RX0, TX0, 5)) (q0 := 1) hP hD hK hT hZ hS [1] rfl rfl rfl rfl) rfl rfl hl.1 rfl (lv_room (Nat.le_of_ble_eq_true rfl)) dX3_light_28 ⟨Nat.le_of_ble_eq_true rfl, Nat.le_of_ble_eq_true rfl⟩) hS hP (fun x_28 H locs hw_28 hP hS => ?_)
    have hw_28 : (x_28 = el) := hw_28
    have v_28 := hw_28
    refine lz_bipush hx hb (by decide) dX3_light_31 (fun x_31 v_31 => ?_)
    refine lz_icmp_lt (tgt := 46) hx hb (v_28.trans hn) v_31 ⟨by omega, by omega⟩ dX3_light_33 (by decide) (fun c_33 => ?_) (fun c_33 => ?_)
    · refine lv_aload_n hx hb dX3_light_46 rfl (lv_at hl 1 rfl) ?_
      refine va_get (D := D) (ci := 3) (v := .ref e0) (C := RX3) (T := TX3) (N := 5) hx hb hts iX3 hown hK hP 0 rfl rfl 0 (by decide) (hts _ qw99) (fun _ h9 => h9) rfl dX3_light_47 ?_
      refine lv_iload_n hx hb dX3_light_50 rfl (lv_at hl 3 rfl) ?_
      refine lv_iload_n hx hb dX3_light_51 rfl (lv_at hl 2 rfl) ?_
      have hS := va_S.weak (A := A) hS
      have hZ := hZA
      refine cm_i (wr := [(r0, .inr (3, [.ref e0, .ref z0, .ref o0, .ref t0, .int qn])), (z0, .inr (1, [.ref e0, .int zn, .ref zw, .ref zv, .ref zs, .int zl, .int zm, .int zk])), (zw, .inr (2, [.ref zwa, .int zsz])), (zwa, .inl (cI, 40, .inl zf)), (zs, .inl (cI, 11, .inl zsf))]) (va_runV (As := [.int x0, .int h0]) (rest := []) ⟨hx, hb, hml, hown, hts⟩ (k_X0_add l D cI cZ cJ cK _ e0 x0 h0 eh eo ev er el fh fo n (hn) (by omega)) (cwV 2 hts (gV qw602 qw603 qw604 qw11 qw605) rfl rfl rfl (by decide +kernel) ⟨Nat.le_of_ble_eq_true rfl, Nat.le_of_ble_eq_true rfl⟩) (pv (ci := 0) (r := (RX0, TX0, 5)) (q0 := 1) hP hD hK hT hZ hS [1, 2, 3] rfl rfl rfl rfl) rfl rfl hl.1 rfl (lv_room (Nat.le_of_ble_eq_true rfl)) dX3_light_52 ⟨Nat.le_of_ble_eq_true rfl, Nat.le_of_ble_eq_true rfl⟩) hS hP hD hA [1, 2, 3] [0, 4, 5, 6, 7] rfl rfl rfl (by decide) (fun x_52 u_52 H locs hw_52 hP hD hS => ?_)
      obtain ⟨l2_52, g_52, g2_52⟩ := u_52
      have hP : va_P D vwCl [(r0, .inr (3, [.ref e0, .ref z0, .ref o0, .ref t0, .int qn])), (z0, .inr (1, [.ref e0, .int zn, .ref zw, .ref zv, .ref zs, .int zl, .int zm, .int zk])), (zw, .inr (2, [.ref zwa, .int zsz])), (zwa, .inl (cI, 40, .inl zf)), (zs, .inl (cI, 11, .inl zsf)), (e0, .inr (0, [.ref eh, .ref eo, .ref ev, .ref er, .int l2_52])), (eh, .inl (cI, 40, .inl g_52)), (eo, .inl (cI, 40, .inl g2_52))] H := hP
      have hD : va_D A [(r0, .inr (3, [.ref e0, .ref z0, .ref o0, .ref t0, .int qn])), (z0, .inr (1, [.ref e0, .int zn, .ref zw, .ref zv, .ref zs, .int zl, .int zm, .int zk])), (zw, .inr (2, [.ref zwa, .int zsz])), (zwa, .inl (cI, 40, .inl zf)), (zs, .inl (cI, 11, .inl zsf)), (e0, .inr (0, [.ref eh, .ref eo, .ref ev, .ref er, .int l2_52])), (eh, .inl (cI, 40, .inl g_52)), (eo, .inl (cI, 40, .inl g2_52))] := hD
      have hw_52 : (x_52 = iI (↑n)) ∧ (l2_52 = iI (↑n + 1)) ∧ (g_52 = upd fh n x0) ∧ (g2_52 = upd fo n h0) := hw_52
      obtain ⟨v_52, a_52, b_52, c_52⟩ := hw_52
      have hx2 : x0 = iI ↑x.toNat := hxv.trans (congrArg iI (by omega))
      have hem2 := embIs_add (x := x.toNat) hem (by omega) (by omega) hx2 b_52 a_52
      have hnL : n ∉ L := fun q => Nat.lt_irrefl _ (hLx n q)
      have hhe2 := heaIs_congr (n2 := n + 1) hhe (Nat.le_succ n) (up_ne_of (x := x.toNat) hnL)
      refine lv_istore (lv' := [(4, .int x_52), (3, .ref z0), (0, .ref r0), (1, .int h0), (2, .int x0)]) hx hb dX3_light_55 hl (by decide) rfl (fun ls hl => ?_)
      refine lv_aload_n hx hb dX3_light_57 rfl (lv_at hl 1 rfl) ?_
      refine lv_iload hx hb dX3_light_58 (lv_at hl 0 rfl) ?_
      refine cm_v (wr := [(r0, .inr (3, [.ref e0, .ref z0, .ref o0, .ref t0, .int qn])), (eo, .inl (cI, 40, .inl g2_52))]) (va_runV (As := [.int x_52]) (rest := []) ⟨hx, hb, hml, hown, hts⟩ (k_X1_put l D cI cZ cJ cK _ z0 x_52 e0 zn zw zv zs zl zm zk zwa zsz zf zsf eh eo ev er l2_52 g_52 lo (n + 1) n (va_up Hh n x.toNat) L (hem2) (hhe2) (v_52.trans (congrArg iI (by omega))) (Nat.lt_succ_self n) (by omega)) (cwV 1 hts (gV qw545 qw266 qw267 qw12 qw268) rfl rfl rfl (by decide +kernel) ⟨Nat.le_of_ble_eq_true rfl, Nat.le_of_ble_eq_true rfl⟩) (pv (ci := 1) (r := (RX1, TX1, 8)) (q0 := 1) hP hD hK hT hZ hS [1, 2, 3, 4, 5, 6] rfl rfl rfl rfl) rfl rfl hl.1 rfl (lv_room (Nat.le_of_ble_eq_true rfl)) dX3_light_60 ⟨Nat.le_of_ble_eq_true rfl, Nat.le_of_ble_eq_true rfl⟩) hS hP hD hA [1, 2, 3, 4, 5, 6] [0, 7] rfl rfl rfl (by decide) (fun u_60 H locs hw_60 hP hD hS => ?_)
      obtain ⟨sz2_60, f2_60, sf2_60⟩ := u_60
      have hP : va_P D vwCl [(r0, .inr (3, [.ref e0, .ref z0, .ref o0, .ref t0, .int qn])), (eo, .inl (cI, 40, .inl g2_52)), (z0, .inr (1, [.ref e0, .int zn, .ref zw, .ref zv, .ref zs, .int zl, .int zm, .int zk])), (zw, .inr (2, [.ref zwa, .int sz2_60])), (zwa, .inl (cI, 40, .inl f2_60)), (zs, .inl (cI, 11, .inl sf2_60)), (e0, .inr (0, [.ref eh, .ref eo, .ref ev, .ref er, .int l2_52])), (eh, .inl (cI, 40, .inl g_52))] H := hP
      have hD : va_D A [(r0, .inr (3, [.ref e0, .ref z0, .ref o0, .ref t0, .int qn])), (eo, .inl (cI, 40, .inl g2_52)), (z0, .inr (1, [.ref e0, .int zn, .ref zw, .ref zv, .ref zs, .int zl, .int zm, .int zk])), (zw, .inr (2, [.ref zwa, .int sz2_60])), (zwa, .inl (cI, 40, .inl f2_60)), (zs, .inl (cI, 11, .inl sf2_60)), (e0, .inr (0, [.ref eh, .ref eo, .ref ev, .ref er, .int l2_52])), (eh, .inl (cI, 40, .inl g_52))] := hD
      have hw_60 : (heaIs zl sz2_60 f2_60 sf2_60 lo (n + 1) (va_up Hh n x.toNat) (ins (ka lo (va_up Hh n x.toNat)) L n)) := hw_60
      have v_60 := hw_60
      refine lv_iload hx hb dX3_light_63 (lv_at hl 0 rfl) ?_
      have hP9 := va_P_subm (ws' := [(r0, .inr (3, [.ref e0, .ref z0, .ref o0, .ref t0, .int qn])), (e0, .inr (0, [.ref eh, .ref eo, .ref ev, .ref er, .int l2_52])), (eh, .inl (cI, 40, .inl g_52)), (eo, .inl (cI, 40, .inl g2_52)), (z0, .inr (1, [.ref e0, .int zn, .ref zw, .ref zv, .ref zs, .int zl, .int zm, .int zk])), (zw, .inr (2, [.ref zwa, .int sz2_60])), (zwa, .inl (cI, 40, .inl f2_60)), (zs, .inl (cI, 11, .inl sf2_60))]) hP [0, 6, 7, 1, 2, 3, 4, 5] rfl
      have hD9 := hD.sub (ws' := [(r0, .inr (3, [.ref e0, .ref z0, .ref o0, .ref t0, .int qn])), (e0, .inr (0, [.ref eh, .ref eo, .ref ev, .ref er, .int l2_52])), (eh, .inl (cI, 40, .inl g_52)), (eo, .inl (cI, 40, .inl g2_52)), (z0, .inr (1, [.ref e0, .int zn, .ref zw, .ref zv, .ref zs, .int zl, .int zm, .int zk])), (zw, .inr (2, [.ref zwa, .int sz2_60])), (zwa, .inl (cI, 40, .inl f2_60)), (zs, .inl (cI, 11, .inl sf2_60))]) [0, 6, 7, 1, 2, 3, 4, 5] rfl rfl
      refine vx_ret ?_
      refine W.widen (k := 1) (n := 6) (by omega) (by omega) ?_
      exact W.iret (v := x_52) hx hb hr (fun t ht hW => ⟨⟨x_52, ⟨l2_52, g_52, g2_52, sz2_60, f2_60, sf2_60⟩, rfl, ⟨v_52, ⟨by omega, by omega⟩, hem2, c_52.trans (by rw [hhv]), v_60⟩, ⟨by rw [ht]; exact hP9, hD9⟩⟩, hS.F ht⟩) hS.2.2 dX3_light_65
    · exact lz_throw (text := "40 embers were lit") hx hb hl0 hown hts hT hZ hS (by rw [hml]; exact hl.1) (by decide +kernel) at_S (by decide +kernel) dX3_light_36 dX3_light_39 dX3_light_40 dX3_light_42 dX3_light_45 (fun x hx9 => (hext x hx9).elim) (Nat.le_of_ble_eq_true rfl) (Nat.le_of_ble_eq_true rfl) (Nat.le_of_ble_eq_true rfl) (Nat.le_of_ble_eq_true rfl) hlocks (fun t hv1 h1 h2 => ⟨(), trivial, Or.inr ⟨rfl, by omega, by omega⟩, va_F_grow hS h1 h2⟩) (fun z hz => (hS.2.2 z hz).elim) (by omega) (by omega)
  · exact lz_throw (text := "the heat is not the low of the hearth to 1023") hx hb hl0 hown hts hT hZ hS (by rw [hml]; exact hl.1) (by decide +kernel) at_A (by decide +kernel) dX3_light_14 dX3_light_17 dX3_light_18 dX3_light_20 dX3_light_23 (fun x hx9 => (hext x hx9).elim) (Nat.le_of_ble_eq_true rfl) (Nat.le_of_ble_eq_true rfl) (Nat.le_of_ble_eq_true rfl) (Nat.le_of_ble_eq_true rfl) hlocks (fun t hv1 h1 h2 => ⟨(), trivial, Or.inl ⟨rfl, by omega⟩, va_F_grow hS h1 h2⟩) (fun z hz => (hS.2.2 z hz).elim) (by omega) (by omega)
set_option maxHeartbeats 4000000 in
set_option maxRecDepth 100000 in
theorem k_X3_fade_0 (l : Launch) (hl0 : l.stackTraces = false) (D : va_G) (cI cZ cJ cK : ClassId) (hz9 : Nat) (r0 : Nat) (y0 : Int32) (x0 : Int32) (e0 : Nat) (z0 : Nat) (o0 : Nat) (t0 : Nat) (qn : Int32) (eh : Nat) (eo : Nat) (ev : Nat) (er : Nat) (el : Int32) (fh : Nat → Int32) (fo : Nat → Int32) (zn : Int32) (zw : Nat) (zv : Nat) (zs : Nat) (zl : Int32) (zm : Int32) (zk : Int32) (zwa : Nat) (zsz : Int32) (zf : Nat → Int32) (zsf : Nat → Int32) (lo n : Nat) (Hh : Nat → Nat) (L : List Nat) (eb : Nat) (x : Int) (hem : embIs el fh n Hh) (hhe : heaIs zl zsz zf zsf lo n Hh L) (hok : heaOk lo Hh L) (hxv : x0 = iI x) (hxr : -2147483648 ≤ x ∧ x < 2147483648) (hev : y0 = iI ↑eb) (hen : eb < n) (hfo : fo eb = iI (0)) (heL : eb ∈ L) : vx_Met l yX3_fade (ws_ yX3_fade cX3_fade 4 (Option.some .int)) ({ frames := 6, cells := 1, slots := 6, locals := 82 }) (va_Pc [.ref r0, .int y0, .int x0] (wPre D cI cZ cJ cK hz9 [(r0, .inr (3, [.ref e0, .ref z0, .ref o0, .ref t0, .int qn])), (e0, .inr (0, [.ref eh, .ref eo, .ref ev, .ref er, .int el])), (eh, .inl (cI, 40, .inl fh)), (eo, .inl (cI, 40, .inl fo)), (z0, .inr (1, [.ref e0, .int zn, .ref zw, .ref zv, .ref zs, .int zl, .int zm, .int zk])), (zw, .inr (2, [.ref zwa, .int zsz])), (zwa, .inl (cI, 40, .inl zf)), (zs, .inl (cI, 11, .inl zsf))])) (va_Qi (fun r (u : (Nat → Int32) × Int32 × (Nat → Int32) × (Nat → Int32)) => (r = iI (↑(bk lo x.toNat))) ∧ ((↑lo : Int) ≤ x ∧ x < ↑(Hh eb)) ∧ (embIs el u.1 n (va_up Hh eb x.toNat)) ∧ (heaIs zl u.2.1 u.2.2.1 u.2.2.2 lo n (va_up Hh eb x.toNat) (ins (ka lo (va_up Hh eb x.toNat)) (del L eb) eb))) (fun (u : (Nat → Int32) × Int32 × (Nat → Int32) × (Nat → Int32)) t => wPost D (va_A [(r0, .inr (3, [.ref e0, .ref z0, .ref o0, .ref t0, .int qn])), (e0, .inr (0, [.ref eh, .ref eo, .ref ev, .ref er, .int el])), (eh, .inl (cI, 40, .inl fh)), (eo, .inl (cI, 40, .inl fo)), (z0, .inr (1, [.ref e0, .int zn, .ref zw, .ref zv, .ref zs, .int zl, .int zm, .int zk])), (zw, .inr (2, [.ref zwa, .int zsz])), (zwa, .inl (cI, 40, .inl zf)), (zs, .inl (cI, 11, .inl zsf))] hz9) [(r0, .inr (3, [.ref e0, .ref z0, .ref o0, .ref t0, .int qn])), (e0, .inr (0, [.ref eh, .ref eo, .ref ev, .ref er, .int el])), (eh, .inl (cI, 40, .inl u.1)), (eo, .inl (cI, 40, .inl fo)), (z0, .inr (1, [.ref e0, .int zn, .ref zw, .ref zv, .ref zs, .int zl, .int zm, .int zk])), (zw, .inr (2, [.ref zwa, .int u.2.1])), (zwa, .inl (cI, 40, .inl u.2.2.1)), (zs, .inl (cI, 11, .inl u.2.2.2))] t) (va_A [(r0, .inr (3, [.ref e0, .ref z0, .ref o0, .ref t0, .int qn])), (e0, .inr (0, [.ref eh, .ref eo, .ref ev, .ref er, .int el])), (eh, .inl (cI, 40, .inl fh)), (eo, .inl (cI, 40, .inl fo)), (z0, .inr (1, [.ref e0, .int zn, .ref zw, .ref zv, .ref zs, .int zl, .int zm, .int zk])), (zw, .inr (2, [.ref zwa, .int zsz])), (zwa, .inl (cI, 40, .inl zf)), (zs, .inl (cI, 11, .inl zsf))] hz9)) (vx_X (fun (_ : Unit) => True) (fun E _ _ => E = xA ∧ ¬ ((↑lo : Int) ≤ x ∧ x < ↑(Hh eb))) (fun _ => False)) 1 6 (va_A [(r0, .inr (3, [.ref e0, .ref z0, .ref o0, .ref t0, .int qn])), (e0, .inr (0, [.ref eh, .ref eo, .ref ev, .ref er, .int el])), (eh, .inl (cI, 40, .inl fh)), (eo, .inl (cI, 40, .inl fo)), (z0, .inr (1, [.ref e0, .int zn, .ref zw, .ref zv, .ref zs, .int zl, .int zm, .int zk])), (zw, .inr (2, [.ref zwa, .int zsz])), (zwa, .inl (cI, 40, .inl zf)), (zs, .inl (cI, 11, .inl zsf))] hz9) := by
  refine vx_ofW (cc := cX3_fade) (maxL := 4) (ret := (Option.some .int)) (by decide) rfl ?_
  intro p e s m args below meth c s₁ hBd hml hext hv
  obtain ⟨rfl, hsz, hP, hD, hK, hT, hZ⟩ := hv
  have hx := hBd.exec
  have hb := hBd.bytes
  have hr := hBd.returns
  have hts : ∀ w ∈ lw_G, w.before _ s = true := fun w h => atoms_spec (ws := (ws_ yX3_fade cX3_fade 4 (Option.some .int))) hBd.pre w (List.mem_cons_of_mem _ h)
  have hown : s.vm.findClass RX3 = some m.cls := findClass_of_methodNamed hBd.named
  have hlocks := hBd.notSynchronized
  subst hsz
  have hD := hD.self (sz := s.heap.size)
  have hZA := hZ.own hP
  generalize hAe : va_A [(r0, .inr (3, [.ref e0, .ref z0, .ref o0, .ref t0, .int qn])), (e0, .inr (0, [.ref eh, .ref eo, .ref ev, .ref er, .int el])), (eh, .inl (cI, 40, .inl fh)), (eo, .inl (cI, 40, .inl fo)), (z0, .inr (1, [.ref e0, .int zn, .ref zw, .ref zv, .ref zs, .int zl, .int zm, .int zk])), (zw, .inr (2, [.ref zwa, .int zsz])), (zwa, .inl (cI, 40, .inl zf)), (zs, .inl (cI, 11, .inl zsf))] s.heap.size = A at hD hZA ⊢
  have hA : ∀ q : Nat, s.heap.size ≤ q → A q := fun q h => by rw [← hAe]; exact Or.inr h
  have hS : va_S (fun _ => False) s.heap s.heap [] := va_S.rf
  have hl := lv_entry ([.ref r0, .int y0, .int x0]) (n := 4) (Nat.le_of_ble_eq_true rfl)
  rw [lg_entry_eq]
  generalize (lg_sl ([.ref r0, .int y0, .int x0]) ++ List.replicate (4 - (lg_sl ([.ref r0, .int y0, .int x0])).length) Slot.unset).toArray = ls at hl ⊢
  have hl : lv_has ls 4 [(0, .ref r0), (1, .int y0), (2, .int x0)] := hl
  have hP : va_P D vwCl [(r0, .inr (3, [.ref e0, .ref z0, .ref o0, .ref t0, .int qn])), (e0, .inr (0, [.ref eh, .ref eo, .ref ev, .ref er, .int el])), (eh, .inl (cI, 40, .inl fh)), (eo, .inl (cI, 40, .inl fo)), (z0, .inr (1, [.ref e0, .int zn, .ref zw, .ref zv, .ref zs, .int zl, .int zm, .int zk])), (zw, .inr (2, [.ref zwa, .int zsz])), (zwa, .inl (cI, 40, .inl zf)), (zs, .inl (cI, 11, .inl zsf))] s.heap := hP
  obtain ⟨hn, hn4, hfh⟩ := id hem
  obtain ⟨hlo, hlo4, hrow, hsz, hLx⟩ := id hhe
  have hHe := (hfh eb hen).2
  refine lv_aload_n hx hb dX3_fade_0 rfl (lv_at hl 0 rfl) ?_
  refine lv_iload_n hx hb dX3_fade_1 rfl (lv_at hl 1 rfl) ?_
  refine cr_r (va_runV (As := [.int y0]) (rest := []) ⟨hx, hb, hml, hown, hts⟩ (k_X3_homeOfBurning_0 l D cI cZ cJ cK _ r0 y0 e0 z0 o0 t0 qn eh eo ev er el fo n eb (hn) (hn4) (hev.trans (congrArg iI (by omega))) (hen) (hfo)) (cwV 1 hts (gV qw535 qw537 qw8 qw10 qw538) rfl rfl rfl (by decide +kernel) ⟨Nat.le_of_ble_eq_true rfl, Nat.le_of_ble_eq_true rfl⟩) (pv (ci := 3) (r := (RX3, TX3, 5)) (q0 := 0) hP hD hK hT hZ hS [0, 1, 3] rfl rfl rfl rfl) rfl rfl hl.1 rfl (lv_room (Nat.le_of_ble_eq_true rfl)) dX3_fade_2 ⟨Nat.le_of_ble_eq_true rfl, Nat.le_of_ble_eq_true rfl⟩) hS hP (fun x_2 H locs hw_2 hP hS => ?_)
  have hw_2 : (x_2 = z0) := hw_2
  have v_2 := hw_2
  have v_2 := v_2.symm
  subst v_2
  refine lv_astore_n (lv' := [(3, .ref z0), (0, .ref r0), (1, .int y0), (2, .int x0)]) hx hb dX3_fade_5 rfl hl (by decide) rfl (fun ls hl => ?_)
  refine lv_iload_n hx hb dX3_fade_6 rfl (lv_at hl 3 rfl) ?_
  refine lv_aload_n hx hb dX3_fade_7 rfl (lv_at hl 0 rfl) ?_
  refine cr_i (va_runV (As := []) (rest := [.int x0]) ⟨hx, hb, hml, hown, hts⟩ (k_X1_low l D cI cZ cJ cK _ z0 e0 zn zw zv zs zl zm zk ) (cwV 0 hts (gV qw348 qw349 qw350 qw12 qw351) rfl rfl rfl (by decide +kernel) ⟨Nat.le_of_ble_eq_true rfl, Nat.le_of_ble_eq_true rfl⟩) (pv (ci := 1) (r := (RX1, TX1, 8)) (q0 := 4) hP hD hK hT hZ hS [4] rfl rfl rfl rfl) rfl rfl hl.1 rfl (lv_room (Nat.le_of_ble_eq_true rfl)) dX3_fade_8 ⟨Nat.le_of_ble_eq_true rfl, Nat.le_of_ble_eq_true rfl⟩) hS hP (fun x_8 H locs hw_8 hP hS => ?_)
  have hw_8 : (x_8 = zl) := hw_8
  have v_8 := hw_8
  refine lz_icmp_lt (tgt := 26) hx hb hxv (v_8.trans hlo) ⟨by omega, by omega⟩ dX3_fade_11 (by decide) (fun c_11 => ?_) (fun c_11 => ?_)
  · exact lz_throw (text := "the heat is not the low of the hearth to 1 less than it was") hx hb hl0 hown hts hT hZ hS (by rw [hml]; exact hl.1) (by decide +kernel) at_A (by decide +kernel) dX3_fade_26 dX3_fade_29 dX3_fade_30 dX3_fade_32 dX3_fade_35 (fun x hx9 => (hext x hx9).elim) (Nat.le_of_ble_eq_true rfl) (Nat.le_of_ble_eq_true rfl) (Nat.le_of_ble_eq_true rfl) (Nat.le_of_ble_eq_true rfl) hlocks (fun t hv1 h1 h2 => ⟨(), trivial, ⟨rfl, by omega⟩, va_F_grow hS h1 h2⟩) (fun z hz => (hS.2.2 z hz).elim) (by omega) (by omega)
  · refine lv_iload_n hx hb dX3_fade_14 rfl (lv_at hl 3 rfl) ?_
    refine lv_aload_n hx hb dX3_fade_15 rfl (lv_at hl 1 rfl) ?_
    refine va_get (D := D) (ci := 3) (v := .ref e0) (C := RX3) (T := TX3) (N := 5) hx hb hts iX3 hown hK hP 0 rfl rfl 0 (by decide) (hts _ qw99) (fun _ h9 => h9) rfl dX3_fade_16 ?_
    refine lv_iload_n hx hb dX3_fade_19 rfl (lv_at hl 2 rfl) ?_
    refine cr_i (va_runV (As := [.int y0]) (rest := [.int x0]) ⟨hx, hb, hml, hown, hts⟩ (k_X0_heatOf l D cI cZ cJ cK _ e0 y0 eh eo ev er el fh n eb (hn) (hn4) (hev.trans (congrArg iI (by omega))) (hen)) (cwV 1 hts (gV qw379 qw236 qw237 qw11 qw238) rfl rfl rfl (by decide +kernel) ⟨Nat.le_of_ble_eq_true rfl, Nat.le_of_ble_eq_true rfl⟩) (pv (ci := 0) (r := (RX0, TX0, 5)) (q0 := 1) hP hD hK hT hZ hS [1, 2] rfl rfl rfl rfl) rfl rfl hl.1 rfl (lv_room (Nat.le_of_ble_eq_true rfl)) dX3_fade_20 ⟨Nat.le_of_ble_eq_true rfl, Nat.le_of_ble_eq_true rfl⟩) hS hP (fun x_20 H locs hw_20 hP hS => ?_)
    have hw_20 : (x_20 = fh eb) := hw_20
    have v_20 := hw_20
    refine lz_icmp_lt (tgt := 36) hx hb hxv (v_20.trans (hfh eb hen).1) ⟨by omega, by omega⟩ dX3_fade_23 (by decide) (fun c_23 => ?_) (fun c_23 => ?_)
    · refine lv_aload_n hx hb dX3_fade_36 rfl (lv_at hl 0 rfl) ?_
      refine lv_iload_n hx hb dX3_fade_37 rfl (lv_at hl 2 rfl) ?_
      have hS := va_S.weak (A := A) hS
      have hZ := hZA
      refine cm_v (wr := [(r0, .inr (3, [.ref e0, .ref z0, .ref o0, .ref t0, .int qn])), (eo, .inl (cI, 40, .inl fo))]) (va_runV (As := [.int y0]) (rest := []) ⟨hx, hb, hml, hown, hts⟩ (k_X1_takeOut l D cI cZ cJ cK _ z0 y0 e0 zn zw zv zs zl zm zk zwa zsz zf zsf eh eo ev er el fh lo n eb Hh L (hem) (hhe) (hev.trans (congrArg iI (by omega))) (heL)) (cwV 1 hts (gV qw442 qw286 qw287 qw12 qw288) rfl rfl rfl (by decide +kernel) ⟨Nat.le_of_ble_eq_true rfl, Nat.le_of_ble_eq_true rfl⟩) (pv (ci := 1) (r := (RX1, TX1, 8)) (q0 := 4) hP hD hK hT hZ hS [4, 5, 6, 7, 1, 2] rfl rfl rfl rfl) rfl rfl hl.1 rfl (lv_room (Nat.le_of_ble_eq_true rfl)) dX3_fade_38 ⟨Nat.le_of_ble_eq_true rfl, Nat.le_of_ble_eq_true rfl⟩) hS hP hD hA [4, 5, 6, 7, 1, 2] [0, 3] rfl rfl rfl (by decide) (fun u_38 H locs hw_38 hP hD hS => ?_)
      obtain ⟨sz2_38, f2_38, sf2_38⟩ := u_38
      have hP : va_P D vwCl [(r0, .inr (3, [.ref e0, .ref z0, .ref o0, .ref t0, .int qn])), (eo, .inl (cI, 40, .inl fo)), (z0, .inr (1, [.ref e0, .int zn, .ref zw, .ref zv, .ref zs, .int zl, .int zm, .int zk])), (zw, .inr (2, [.ref zwa, .int sz2_38])), (zwa, .inl (cI, 40, .inl f2_38)), (zs, .inl (cI, 11, .inl sf2_38)), (e0, .inr (0, [.ref eh, .ref eo, .ref ev, .ref er, .int el])), (eh, .inl (cI, 40, .inl fh))] H := hP
      have hD : va_D A [(r0, .inr (3, [.ref e0, .ref z0, .ref o0, .ref t0, .int qn])), (eo, .inl (cI, 40, .inl fo)), (z0, .inr (1, [.ref e0, .int zn, .ref zw, .ref zv, .ref zs, .int zl, .int zm, .int zk])), (zw, .inr (2, [.ref zwa, .int sz2_38])), (zwa, .inl (cI, 40, .inl f2_38)), (zs, .inl (cI, 11, .inl sf2_38)), (e0, .inr (0, [.ref eh, .ref eo, .ref ev, .ref er, .int el])), (eh, .inl (cI, 40, .inl fh))] := hD
      have hw_38 : (heaIs zl sz2_38 f2_38 sf2_38 lo n Hh (del L eb)) := hw_38
      have v_38 := hw_38
      refine lv_aload_n hx hb dX3_fade_41 rfl (lv_at hl 1 rfl) ?_
      refine va_get (D := D) (ci := 3) (v := .ref e0) (C := RX3) (T := TX3) (N := 5) hx hb hts iX3 hown hK hP 0 rfl rfl 0 (by decide) (hts _ qw99) (fun _ h9 => h9) rfl dX3_fade_42 ?_
      refine lv_iload_n hx hb dX3_fade_45 rfl (lv_at hl 2 rfl) ?_
      refine lv_iload_n hx hb dX3_fade_46 rfl (lv_at hl 3 rfl) ?_
      refine cm_v (wr := [(r0, .inr (3, [.ref e0, .ref z0, .ref o0, .ref t0, .int qn])), (eo, .inl (cI, 40, .inl fo)), (z0, .inr (1, [.ref e0, .int zn, .ref zw, .ref zv, .ref zs, .int zl, .int zm, .int zk])), (zw, .inr (2, [.ref zwa, .int sz2_38])), (zwa, .inl (cI, 40, .inl f2_38)), (zs, .inl (cI, 11, .inl sf2_38))]) (va_runV (As := [.int y0, .int x0]) (rest := []) ⟨hx, hb, hml, hown, hts⟩ (k_X0_setHeat l D cI cZ cJ cK _ e0 y0 x0 eh eo ev er el fh n eb (hn) (hn4) (hev.trans (congrArg iI (by omega))) (hen)) (cwV 2 hts (gV qw541 qw542 qw543 qw11 qw544) rfl rfl rfl (by decide +kernel) ⟨Nat.le_of_ble_eq_true rfl, Nat.le_of_ble_eq_true rfl⟩) (pv (ci := 0) (r := (RX0, TX0, 5)) (q0 := 6) hP hD hK hT hZ hS [6, 7] rfl rfl rfl rfl) rfl rfl hl.1 rfl (lv_room (Nat.le_of_ble_eq_true rfl)) dX3_fade_47 ⟨Nat.le_of_ble_eq_true rfl, Nat.le_of_ble_eq_true rfl⟩) hS hP hD hA [6, 7] [0, 1, 2, 3, 4, 5] rfl rfl rfl (by decide) (fun u_47 H locs hw_47 hP hD hS => ?_)
      obtain ⟨g_47, rfl⟩ : ∃ z, z = u_47 := ⟨_, rfl⟩
      have hP : va_P D vwCl [(r0, .inr (3, [.ref e0, .ref z0, .ref o0, .ref t0, .int qn])), (eo, .inl (cI, 40, .inl fo)), (z0, .inr (1, [.ref e0, .int zn, .ref zw, .ref zv, .ref zs, .int zl, .int zm, .int zk])), (zw, .inr (2, [.ref zwa, .int sz2_38])), (zwa, .inl (cI, 40, .inl f2_38)), (zs, .inl (cI, 11, .inl sf2_38)), (e0, .inr (0, [.ref eh, .ref eo, .ref ev, .ref er, .int el])), (eh, .inl (cI, 40, .inl g_47))] H := hP
      have hD : va_D A [(r0, .inr (3, [.ref e0, .ref z0, .ref o0, .ref t0, .int qn])), (eo, .inl (cI, 40, .inl fo)), (z0, .inr (1, [.ref e0, .int zn, .ref zw, .ref zv, .ref zs, .int zl, .int zm, .int zk])), (zw, .inr (2, [.ref zwa, .int sz2_38])), (zwa, .inl (cI, 40, .inl f2_38)), (zs, .inl (cI, 11, .inl sf2_38)), (e0, .inr (0, [.ref eh, .ref eo, .ref ev, .ref er, .int el])), (eh, .inl (cI, 40, .inl g_47))] := hD
      have hw_47 : (g_47 = upd fh eb x0) := hw_47
      have v_47 := hw_47
      have hx2 : x0 = iI ↑x.toNat := hxv.trans (congrArg iI (by omega))
      have hem2 := embIs_set (x := x.toNat) hem (by omega) hx2 v_47
      have hhe2 := heaIs_congr v_38 (Nat.le_refl n) (up_ne_of (x := x.toNat) (del_notin hok.2.1 heL))
      refine lv_aload_n hx hb dX3_fade_50 rfl (lv_at hl 0 rfl) ?_
      refine lv_iload_n hx hb dX3_fade_51 rfl (lv_at hl 2 rfl) ?_
      refine cm_v (wr := [(r0, .inr (3, [.ref e0, .ref z0, .ref o0, .ref t0, .int qn])), (eo, .inl (cI, 40, .inl fo))]) (va_runV (As := [.int y0]) (rest := []) ⟨hx, hb, hml, hown, hts⟩ (k_X1_put l D cI cZ cJ cK _ z0 y0 e0 zn zw zv zs zl zm zk zwa sz2_38 f2_38 sf2_38 eh eo ev er el g_47 lo n eb (va_up Hh eb x.toNat) (del L eb) (hem2) (hhe2) (hev.trans (congrArg iI (by omega))) (hen) (by have := del_len heL; have := hrow.2.1; omega)) (cwV 1 hts (gV qw545 qw266 qw267 qw12 qw268) rfl rfl rfl (by decide +kernel) ⟨Nat.le_of_ble_eq_true rfl, Nat.le_of_ble_eq_true rfl⟩) (pv (ci := 1) (r := (RX1, TX1, 8)) (q0 := 2) hP hD hK hT hZ hS [2, 3, 4, 5, 6, 7] rfl rfl rfl rfl) rfl rfl hl.1 rfl (lv_room (Nat.le_of_ble_eq_true rfl)) dX3_fade_52 ⟨Nat.le_of_ble_eq_true rfl, Nat.le_of_ble_eq_true rfl⟩) hS hP hD hA [2, 3, 4, 5, 6, 7] [0, 1] rfl rfl rfl (by decide) (fun u_52 H locs hw_52 hP hD hS => ?_)
      obtain ⟨sz2_52, f2_52, sf2_52⟩ := u_52
      have hP : va_P D vwCl [(r0, .inr (3, [.ref e0, .ref z0, .ref o0, .ref t0, .int qn])), (eo, .inl (cI, 40, .inl fo)), (z0, .inr (1, [.ref e0, .int zn, .ref zw, .ref zv, .ref zs, .int zl, .int zm, .int zk])), (zw, .inr (2, [.ref zwa, .int sz2_52])), (zwa, .inl (cI, 40, .inl f2_52)), (zs, .inl (cI, 11, .inl sf2_52)), (e0, .inr (0, [.ref eh, .ref eo, .ref ev, .ref er, .int el])), (eh, .inl (cI, 40, .inl g_47))] H := hP
      have hD : va_D A [(r0, .inr (3, [.ref e0, .ref z0, .ref o0, .ref t0, .int qn])), (eo, .inl (cI, 40, .inl fo)), (z0, .inr (1, [.ref e0, .int zn, .ref zw, .ref zv, .ref zs, .int zl, .int zm, .int zk])), (zw, .inr (2, [.ref zwa, .int sz2_52])), (zwa, .inl (cI, 40, .inl f2_52)), (zs, .inl (cI, 11, .inl sf2_52)), (e0, .inr (0, [.ref eh, .ref eo, .ref ev, .ref er, .int el])), (eh, .inl (cI, 40, .inl g_47))] := hD
      have hw_52 : (heaIs zl sz2_52 f2_52 sf2_52 lo n (va_up Hh eb x.toNat) (ins (ka lo (va_up Hh eb x.toNat)) (del L eb) eb)) := hw_52
      have v_52 := hw_52
      refine lv_aload_n hx hb dX3_fade_55 rfl (lv_at hl 0 rfl) ?_
      refine lv_iload_n hx hb dX3_fade_56 rfl (lv_at hl 3 rfl) ?_
      refine cr_i (va_runV (As := [.int x0]) (rest := []) ⟨hx, hb, hml, hown, hts⟩ (k_X1_bucketFor l D cI cZ cJ cK _ z0 x0 e0 zn zw zv zs zl zm zk lo x.toNat (hlo) (hlo4) (hx2) (by omega)) (cwV 1 hts (gV qw343 qw270 qw271 qw12 qw272) rfl rfl rfl (by decide +kernel) ⟨Nat.le_of_ble_eq_true rfl, Nat.le_of_ble_eq_true rfl⟩) (pv (ci := 1) (r := (RX1, TX1, 8)) (q0 := 2) hP hD hK hT hZ hS [2] rfl rfl rfl rfl) rfl rfl hl.1 rfl (lv_room (Nat.le_of_ble_eq_true rfl)) dX3_fade_57 ⟨Nat.le_of_ble_eq_true rfl, Nat.le_of_ble_eq_true rfl⟩) hS hP (fun x_57 H locs hw_57 hP hS => ?_)
      have hw_57 : (x_57 = iI (↑(bk lo x.toNat))) := hw_57
      have v_57 := hw_57
      have hP9 := va_P_subm (ws' := [(r0, .inr (3, [.ref e0, .ref z0, .ref o0, .ref t0, .int qn])), (e0, .inr (0, [.ref eh, .ref eo, .ref ev, .ref er, .int el])), (eh, .inl (cI, 40, .inl g_47)), (eo, .inl (cI, 40, .inl fo)), (z0, .inr (1, [.ref e0, .int zn, .ref zw, .ref zv, .ref zs, .int zl, .int zm, .int zk])), (zw, .inr (2, [.ref zwa, .int sz2_52])), (zwa, .inl (cI, 40, .inl f2_52)), (zs, .inl (cI, 11, .inl sf2_52))]) hP [0, 6, 7, 1, 2, 3, 4, 5] rfl
      have hD9 := hD.sub (ws' := [(r0, .inr (3, [.ref e0, .ref z0, .ref o0, .ref t0, .int qn])), (e0, .inr (0, [.ref eh, .ref eo, .ref ev, .ref er, .int el])), (eh, .inl (cI, 40, .inl g_47)), (eo, .inl (cI, 40, .inl fo)), (z0, .inr (1, [.ref e0, .int zn, .ref zw, .ref zv, .ref zs, .int zl, .int zm, .int zk])), (zw, .inr (2, [.ref zwa, .int sz2_52])), (zwa, .inl (cI, 40, .inl f2_52)), (zs, .inl (cI, 11, .inl sf2_52))]) [0, 6, 7, 1, 2, 3, 4, 5] rfl rfl
      refine vx_ret ?_
      refine W.widen (k := 1) (n := 6) (by omega) (by omega) ?_
      exact W.iret (v := x_57) hx hb hr (fun t ht hW => ⟨⟨x_57, ⟨g_47, sz2_52, f2_52, sf2_52⟩, rfl, ⟨v_57, ⟨by omega, by omega⟩, hem2, v_52⟩, ⟨by rw [ht]; exact hP9, hD9⟩⟩, hS.F ht⟩) hS.2.2 dX3_fade_60
    · exact lz_throw (text := "the heat is not the low of the hearth to 1 less than it was") hx hb hl0 hown hts hT hZ hS (by rw [hml]; exact hl.1) (by decide +kernel) at_A (by decide +kernel) dX3_fade_26 dX3_fade_29 dX3_fade_30 dX3_fade_32 dX3_fade_35 (fun x hx9 => (hext x hx9).elim) (Nat.le_of_ble_eq_true rfl) (Nat.le_of_ble_eq_true rfl) (Nat.le_of_ble_eq_true rfl) (Nat.le_of_ble_eq_true rfl) hlocks (fun t hv1 h1 h2 => ⟨(), trivial, ⟨rfl, by omega⟩, va_F_grow hS h1 h2⟩) (fun z hz => (hS.2.2 z hz).elim) (by omega) (by omega)
set_option maxHeartbeats 4000000 in
set_option maxRecDepth 100000 in
theorem k_X3_quench_0 (l : Launch) (D : va_G) (cI cZ cJ cK : ClassId) (hz9 : Nat) (r0 : Nat) (y0 : Int32) (e0 : Nat) (z0 : Nat) (o0 : Nat) (t0 : Nat) (qn : Int32) (eh : Nat) (eo : Nat) (ev : Nat) (er : Nat) (el : Int32) (fh : Nat → Int32) (fo : Nat → Int32) (fr : Nat → Int32) (zn : Int32) (zw : Nat) (zv : Nat) (zs : Nat) (zl : Int32) (zm : Int32) (zk : Int32) (zwa : Nat) (zsz : Int32) (zf : Nat → Int32) (zsf : Nat → Int32) (lo n : Nat) (Hh : Nat → Nat) (L : List Nat) (eb : Nat) (hem : embIs el fh n Hh) (hhe : heaIs zl zsz zf zsf lo n Hh L) (hev : y0 = iI ↑eb) (hen : eb < n) (hfo : fo eb = iI (0)) (heL : eb ∈ L) : Met l yX3_quench (ws_ yX3_quench cX3_quench 4 (Option.some .int)) ({ frames := 3, cells := 0, slots := 0, locals := 73 }) (va_Pc [.ref r0, .int y0] (wPre D cI cZ cJ cK hz9 [(r0, .inr (3, [.ref e0, .ref z0, .ref o0, .ref t0, .int qn])), (e0, .inr (0, [.ref eh, .ref eo, .ref ev, .ref er, .int el])), (eh, .inl (cI, 40, .inl fh)), (eo, .inl (cI, 40, .inl fo)), (er, .inl (cZ, 40, .inl fr)), (z0, .inr (1, [.ref e0, .int zn, .ref zw, .ref zv, .ref zs, .int zl, .int zm, .int zk])), (zw, .inr (2, [.ref zwa, .int zsz])), (zwa, .inl (cI, 40, .inl zf)), (zs, .inl (cI, 11, .inl zsf))])) (va_Qi (fun r (u : Int32 × (Nat → Int32) × (Nat → Int32) × Int32 × (Nat → Int32) × (Nat → Int32)) => (r = iI (↑(bk lo (Hh eb)))) ∧ (u.2.1 = upd fo eb (iI (-1))) ∧ (u.2.2.1 = upd fr eb (iI 0)) ∧ (u.1 = qn + 1) ∧ (heaIs zl u.2.2.2.1 u.2.2.2.2.1 u.2.2.2.2.2 lo n Hh (del L eb))) (fun (u : Int32 × (Nat → Int32) × (Nat → Int32) × Int32 × (Nat → Int32) × (Nat → Int32)) t => wPost D (va_A [(r0, .inr (3, [.ref e0, .ref z0, .ref o0, .ref t0, .int qn])), (e0, .inr (0, [.ref eh, .ref eo, .ref ev, .ref er, .int el])), (eh, .inl (cI, 40, .inl fh)), (eo, .inl (cI, 40, .inl fo)), (er, .inl (cZ, 40, .inl fr)), (z0, .inr (1, [.ref e0, .int zn, .ref zw, .ref zv, .ref zs, .int zl, .int zm, .int zk])), (zw, .inr (2, [.ref zwa, .int zsz])), (zwa, .inl (cI, 40, .inl zf)), (zs, .inl (cI, 11, .inl zsf))] hz9) [(r0, .inr (3, [.ref e0, .ref z0, .ref o0, .ref t0, .int u.1])), (e0, .inr (0, [.ref eh, .ref eo, .ref ev, .ref er, .int el])), (eh, .inl (cI, 40, .inl fh)), (eo, .inl (cI, 40, .inl u.2.1)), (er, .inl (cZ, 40, .inl u.2.2.1)), (z0, .inr (1, [.ref e0, .int zn, .ref zw, .ref zv, .ref zs, .int zl, .int zm, .int zk])), (zw, .inr (2, [.ref zwa, .int u.2.2.2.1])), (zwa, .inl (cI, 40, .inl u.2.2.2.2.1)), (zs, .inl (cI, 11, .inl u.2.2.2.2.2))] t) (va_A [(r0, .inr (3, [.ref e0, .ref z0, .ref o0, .ref t0, .int qn])), (e0, .inr (0, [.ref eh, .ref eo, .ref ev, .ref er, .int el])), (eh, .inl (cI, 40, .inl fh)), (eo, .inl (cI, 40, .inl fo)), (er, .inl (cZ, 40, .inl fr)), (z0, .inr (1, [.ref e0, .int zn, .ref zw, .ref zv, .ref zs, .int zl, .int zm, .int zk])), (zw, .inr (2, [.ref zwa, .int zsz])), (zwa, .inl (cI, 40, .inl zf)), (zs, .inl (cI, 11, .inl zsf))] hz9)) 0 0 (va_A [(r0, .inr (3, [.ref e0, .ref z0, .ref o0, .ref t0, .int qn])), (e0, .inr (0, [.ref eh, .ref eo, .ref ev, .ref er, .int el])), (eh, .inl (cI, 40, .inl fh)), (eo, .inl (cI, 40, .inl fo)), (er, .inl (cZ, 40, .inl fr)), (z0, .inr (1, [.ref e0, .int zn, .ref zw, .ref zv, .ref zs, .int zl, .int zm, .int zk])), (zw, .inr (2, [.ref zwa, .int zsz])), (zwa, .inl (cI, 40, .inl zf)), (zs, .inl (cI, 11, .inl zsf))] hz9) := by
  refine Met.ofW (cc := cX3_quench) (maxL := 4) (ret := (Option.some .int)) (by decide) rfl ?_
  intro p e s m args below meth c s₁ hBd hml hv
  obtain ⟨rfl, hsz, hP, hD, hK, hT, hZ⟩ := hv
  have hx := hBd.exec
  have hb := hBd.bytes
  have hr := hBd.returns
  have hts : ∀ w ∈ lw_G, w.before _ s = true := fun w h => atoms_spec (ws := (ws_ yX3_quench cX3_quench 4 (Option.some .int))) hBd.pre w (List.mem_cons_of_mem _ h)
  have hown : s.vm.findClass RX3 = some m.cls := findClass_of_methodNamed hBd.named
  have hlocks := hBd.notSynchronized
  subst hsz
  have hD := hD.self (sz := s.heap.size)
  have hZA := hZ.own hP
  generalize hAe : va_A [(r0, .inr (3, [.ref e0, .ref z0, .ref o0, .ref t0, .int qn])), (e0, .inr (0, [.ref eh, .ref eo, .ref ev, .ref er, .int el])), (eh, .inl (cI, 40, .inl fh)), (eo, .inl (cI, 40, .inl fo)), (er, .inl (cZ, 40, .inl fr)), (z0, .inr (1, [.ref e0, .int zn, .ref zw, .ref zv, .ref zs, .int zl, .int zm, .int zk])), (zw, .inr (2, [.ref zwa, .int zsz])), (zwa, .inl (cI, 40, .inl zf)), (zs, .inl (cI, 11, .inl zsf))] s.heap.size = A at hD hZA ⊢
  have hA : ∀ q : Nat, s.heap.size ≤ q → A q := fun q h => by rw [← hAe]; exact Or.inr h
  have hZ := hZA
  have hS : va_S A s.heap s.heap [] := va_S.rf
  have hl := lv_entry ([.ref r0, .int y0]) (n := 4) (Nat.le_of_ble_eq_true rfl)
  rw [lg_entry_eq]
  generalize (lg_sl ([.ref r0, .int y0]) ++ List.replicate (4 - (lg_sl ([.ref r0, .int y0])).length) Slot.unset).toArray = ls at hl ⊢
  have hl : lv_has ls 4 [(0, .ref r0), (1, .int y0)] := hl
  have hP : va_P D vwCl [(r0, .inr (3, [.ref e0, .ref z0, .ref o0, .ref t0, .int qn])), (e0, .inr (0, [.ref eh, .ref eo, .ref ev, .ref er, .int el])), (eh, .inl (cI, 40, .inl fh)), (eo, .inl (cI, 40, .inl fo)), (er, .inl (cZ, 40, .inl fr)), (z0, .inr (1, [.ref e0, .int zn, .ref zw, .ref zv, .ref zs, .int zl, .int zm, .int zk])), (zw, .inr (2, [.ref zwa, .int zsz])), (zwa, .inl (cI, 40, .inl zf)), (zs, .inl (cI, 11, .inl zsf))] s.heap := hP
  obtain ⟨hn, hn4, hfh⟩ := id hem
  obtain ⟨hlo, hlo4, hrow, hsz, hLx⟩ := id hhe
  have hHe := (hfh eb hen).2
  refine lv_aload_n hx hb dX3_quench_0 rfl (lv_at hl 0 rfl) ?_
  refine lv_iload_n hx hb dX3_quench_1 rfl (lv_at hl 1 rfl) ?_
  refine cr_r (va_runV (As := [.int y0]) (rest := []) ⟨hx, hb, hml, hown, hts⟩ (k_X3_homeOfBurning_0 l D cI cZ cJ cK _ r0 y0 e0 z0 o0 t0 qn eh eo ev er el fo n eb (hn) (hn4) (hev.trans (congrArg iI (by omega))) (hen) (hfo)) (cwV 1 hts (gV qw535 qw537 qw8 qw10 qw538) rfl rfl rfl (by decide +kernel) ⟨Nat.le_of_ble_eq_true rfl, Nat.le_of_ble_eq_true rfl⟩) (pv (ci := 3) (r := (RX3, TX3, 5)) (q0 := 0) hP hD hK hT hZ hS [0, 1, 3] rfl rfl rfl rfl) rfl rfl hl.1 rfl (lv_room (Nat.le_of_ble_eq_true rfl)) dX3_quench_2 ⟨Nat.le_of_ble_eq_true rfl, Nat.le_of_ble_eq_true rfl⟩) hS hP (fun x_2 H locs hw_2 hP hS => ?_)
  have hw_2 : (x_2 = z0) := hw_2
  have v_2 := hw_2
  have v_2 := v_2.symm
  subst v_2
  refine lv_astore_n (lv' := [(2, .ref z0), (0, .ref r0), (1, .int y0)]) hx hb dX3_quench_5 rfl hl (by decide) rfl (fun ls hl => ?_)
  refine lv_aload_n hx hb dX3_quench_6 rfl (lv_at hl 0 rfl) ?_
  refine lv_aload_n hx hb dX3_quench_7 rfl (lv_at hl 1 rfl) ?_
  refine va_get (D := D) (ci := 3) (v := .ref e0) (C := RX3) (T := TX3) (N := 5) hx hb hts iX3 hown hK hP 0 rfl rfl 0 (by decide) (hts _ qw99) (fun _ h9 => h9) rfl dX3_quench_8 ?_
  refine lv_iload_n hx hb dX3_quench_11 rfl (lv_at hl 2 rfl) ?_
  refine cr_i (va_runV (As := [.int y0]) (rest := [.ref z0]) ⟨hx, hb, hml, hown, hts⟩ (k_X0_heatOf l D cI cZ cJ cK _ e0 y0 eh eo ev er el fh n eb (hn) (hn4) (hev.trans (congrArg iI (by omega))) (hen)) (cwV 1 hts (gV qw379 qw236 qw237 qw11 qw238) rfl rfl rfl (by decide +kernel) ⟨Nat.le_of_ble_eq_true rfl, Nat.le_of_ble_eq_true rfl⟩) (pv (ci := 0) (r := (RX0, TX0, 5)) (q0 := 1) hP hD hK hT hZ hS [1, 2] rfl rfl rfl rfl) rfl rfl hl.1 rfl (lv_room (Nat.le_of_ble_eq_true rfl)) dX3_quench_12 ⟨Nat.le_of_ble_eq_true rfl, Nat.le_of_ble_eq_true rfl⟩) hS hP (fun x_12 H locs hw_12 hP hS => ?_)
  have hw_12 : (x_12 = fh eb) := hw_12
  have v_12 := hw_12
  refine cr_i (va_runV (As := [.int x_12]) (rest := []) ⟨hx, hb, hml, hown, hts⟩ (k_X1_bucketFor l D cI cZ cJ cK _ z0 x_12 e0 zn zw zv zs zl zm zk lo (Hh eb) (hlo) (hlo4) ((v_12.trans (hfh eb hen).1).trans (congrArg iI (by omega))) (hHe)) (cwV 1 hts (gV qw343 qw270 qw271 qw12 qw272) rfl rfl rfl (by decide +kernel) ⟨Nat.le_of_ble_eq_true rfl, Nat.le_of_ble_eq_true rfl⟩) (pv (ci := 1) (r := (RX1, TX1, 8)) (q0 := 5) hP hD hK hT hZ hS [5] rfl rfl rfl rfl) rfl rfl hl.1 rfl (lv_room (Nat.le_of_ble_eq_true rfl)) dX3_quench_15 ⟨Nat.le_of_ble_eq_true rfl, Nat.le_of_ble_eq_true rfl⟩) hS hP (fun x_15 H locs hw_15 hP hS => ?_)
  have hw_15 : (x_15 = iI (↑(bk lo (Hh eb)))) := hw_15
  have v_15 := hw_15
  refine lv_istore_n (lv' := [(3, .int x_15), (2, .ref z0), (0, .ref r0), (1, .int y0)]) hx hb dX3_quench_18 rfl hl (by decide) rfl (fun ls hl => ?_)
  refine lv_aload_n hx hb dX3_quench_19 rfl (lv_at hl 1 rfl) ?_
  refine lv_iload_n hx hb dX3_quench_20 rfl (lv_at hl 3 rfl) ?_
  refine cm_v (wr := [(r0, .inr (3, [.ref e0, .ref z0, .ref o0, .ref t0, .int qn])), (eo, .inl (cI, 40, .inl fo)), (er, .inl (cZ, 40, .inl fr))]) (va_runV (As := [.int y0]) (rest := []) ⟨hx, hb, hml, hown, hts⟩ (k_X1_takeOut l D cI cZ cJ cK _ z0 y0 e0 zn zw zv zs zl zm zk zwa zsz zf zsf eh eo ev er el fh lo n eb Hh L (hem) (hhe) (hev.trans (congrArg iI (by omega))) (heL)) (cwV 1 hts (gV qw442 qw286 qw287 qw12 qw288) rfl rfl rfl (by decide +kernel) ⟨Nat.le_of_ble_eq_true rfl, Nat.le_of_ble_eq_true rfl⟩) (pv (ci := 1) (r := (RX1, TX1, 8)) (q0 := 5) hP hD hK hT hZ hS [5, 6, 7, 8, 1, 2] rfl rfl rfl rfl) rfl rfl hl.1 rfl (lv_room (Nat.le_of_ble_eq_true rfl)) dX3_quench_21 ⟨Nat.le_of_ble_eq_true rfl, Nat.le_of_ble_eq_true rfl⟩) hS hP hD hA [5, 6, 7, 8, 1, 2] [0, 3, 4] rfl rfl rfl (by decide) (fun u_21 H locs hw_21 hP hD hS => ?_)
  obtain ⟨sz2_21, f2_21, sf2_21⟩ := u_21
  have hP : va_P D vwCl [(r0, .inr (3, [.ref e0, .ref z0, .ref o0, .ref t0, .int qn])), (eo, .inl (cI, 40, .inl fo)), (er, .inl (cZ, 40, .inl fr)), (z0, .inr (1, [.ref e0, .int zn, .ref zw, .ref zv, .ref zs, .int zl, .int zm, .int zk])), (zw, .inr (2, [.ref zwa, .int sz2_21])), (zwa, .inl (cI, 40, .inl f2_21)), (zs, .inl (cI, 11, .inl sf2_21)), (e0, .inr (0, [.ref eh, .ref eo, .ref ev, .ref er, .int el])), (eh, .inl (cI, 40, .inl fh))] H := hP
  have hD : va_D A [(r0, .inr (3, [.ref e0, .ref z0, .ref o0, .ref t0, .int qn])), (eo, .inl (cI, 40, .inl fo)), (er, .inl (cZ, 40, .inl fr)), (z0, .inr (1, [.ref e0, .int zn, .ref zw, .ref zv, .ref zs, .int zl, .int zm, .int zk])), (zw, .inr (2, [.ref zwa, .int sz2_21])), (zwa, .inl (cI, 40, .inl f2_21)), (zs, .inl (cI, 11, .inl sf2_21)), (e0, .inr (0, [.ref eh, .ref eo, .ref ev, .ref er, .int el])), (eh, .inl (cI, 40, .inl fh))] := hD
  have hw_21 : (heaIs zl sz2_21 f2_21 sf2_21 lo n Hh (del L eb)) := hw_21
  have v_21 := hw_21
  refine lv_aload_n hx hb dX3_quench_24 rfl (lv_at hl 2 rfl) ?_
  refine va_get (D := D) (ci := 3) (v := .ref e0) (C := RX3) (T := TX3) (N := 5) hx hb hts iX3 hown hK hP 0 rfl rfl 0 (by decide) (hts _ qw99) (fun _ h9 => h9) rfl dX3_quench_25 ?_
  refine lv_iload_n hx hb dX3_quench_28 rfl (lv_at hl 3 rfl) ?_
  refine lz_iconst hx hb dX3_quench_29 (fun x_29 v_29 => ?_)
  refine cm_v (wr := [(r0, .inr (3, [.ref e0, .ref z0, .ref o0, .ref t0, .int qn])), (z0, .inr (1, [.ref e0, .int zn, .ref zw, .ref zv, .ref zs, .int zl, .int zm, .int zk])), (zw, .inr (2, [.ref zwa, .int sz2_21])), (zwa, .inl (cI, 40, .inl f2_21)), (zs, .inl (cI, 11, .inl sf2_21)), (eh, .inl (cI, 40, .inl fh))]) (va_runV (As := [.int y0, .int x_29]) (rest := []) ⟨hx, hb, hml, hown, hts⟩ (k_X0_goOut l D cI cZ cJ cK _ e0 y0 x_29 eh eo ev er el fo fr n eb 0 (hn) (hn4) (hev.trans (congrArg iI (by omega))) (hen) (v_29.trans (congrArg iI (by omega))) (Or.inl rfl)) (cwV 2 hts (gV qw297 qw298 qw299 qw11 qw300) rfl rfl rfl (by decide +kernel) ⟨Nat.le_of_ble_eq_true rfl, Nat.le_of_ble_eq_true rfl⟩) (pv (ci := 0) (r := (RX0, TX0, 5)) (q0 := 7) hP hD hK hT hZ hS [7, 1, 2] rfl rfl rfl rfl) rfl rfl hl.1 rfl (lv_room (Nat.le_of_ble_eq_true rfl)) dX3_quench_30 ⟨Nat.le_of_ble_eq_true rfl, Nat.le_of_ble_eq_true rfl⟩) hS hP hD hA [7, 1, 2] [0, 3, 4, 5, 6, 8] rfl rfl rfl (by decide) (fun u_30 H locs hw_30 hP hD hS => ?_)
  obtain ⟨g_30, g2_30⟩ := u_30
  have hP : va_P D vwCl [(r0, .inr (3, [.ref e0, .ref z0, .ref o0, .ref t0, .int qn])), (z0, .inr (1, [.ref e0, .int zn, .ref zw, .ref zv, .ref zs, .int zl, .int zm, .int zk])), (zw, .inr (2, [.ref zwa, .int sz2_21])), (zwa, .inl (cI, 40, .inl f2_21)), (zs, .inl (cI, 11, .inl sf2_21)), (eh, .inl (cI, 40, .inl fh)), (e0, .inr (0, [.ref eh, .ref eo, .ref ev, .ref er, .int el])), (eo, .inl (cI, 40, .inl g_30)), (er, .inl (cZ, 40, .inl g2_30))] H := hP
  have hD : va_D A [(r0, .inr (3, [.ref e0, .ref z0, .ref o0, .ref t0, .int qn])), (z0, .inr (1, [.ref e0, .int zn, .ref zw, .ref zv, .ref zs, .int zl, .int zm, .int zk])), (zw, .inr (2, [.ref zwa, .int sz2_21])), (zwa, .inl (cI, 40, .inl f2_21)), (zs, .inl (cI, 11, .inl sf2_21)), (eh, .inl (cI, 40, .inl fh)), (e0, .inr (0, [.ref eh, .ref eo, .ref ev, .ref er, .int el])), (eo, .inl (cI, 40, .inl g_30)), (er, .inl (cZ, 40, .inl g2_30))] := hD
  have hw_30 : (g_30 = upd fo eb (iI (-1))) ∧ (g2_30 = upd fr eb (iI 0)) := hw_30
  obtain ⟨v_30, w_30⟩ := hw_30
  refine lv_aload_n hx hb dX3_quench_33 rfl (lv_at hl 2 rfl) ?_
  refine lv_dup hx hb dX3_quench_34 rfl ?_
  refine va_get (D := D) (ci := 3) (v := .int qn) (C := RX3) (T := TX3) (N := 5) hx hb hts iX3 hown hK hP 0 rfl rfl 4 (by decide) (hts _ qw103) (fun _ h9 => h9) rfl dX3_quench_35 ?_
  refine lz_iconst hx hb dX3_quench_38 (fun x_38 v_38 => ?_)
  refine lv_iadd hx hb dX3_quench_39 ?_
  refine lv_topi (fun x_39 e_39 => ?_)
  refine va_put (D := D) (ci := 3) (v := .int x_39) (ty := .int) (C := RX3) (T := TX3) (N := 5) hx hb hts iX3 tyX3 tyX3_ok nmX3 hown hK hP hD hS 0 rfl rfl 4 (by decide) (hts _ qw103) (fun _ h9 => h9) rfl (by decide +kernel) rfl rfl (Nat.le_of_ble_eq_true rfl) dX3_quench_40 (fun H locs hP hD hS => ?_)
  have hP : va_P D vwCl [(r0, .inr (3, [.ref e0, .ref z0, .ref o0, .ref t0, .int x_39])), (z0, .inr (1, [.ref e0, .int zn, .ref zw, .ref zv, .ref zs, .int zl, .int zm, .int zk])), (zw, .inr (2, [.ref zwa, .int sz2_21])), (zwa, .inl (cI, 40, .inl f2_21)), (zs, .inl (cI, 11, .inl sf2_21)), (eh, .inl (cI, 40, .inl fh)), (e0, .inr (0, [.ref eh, .ref eo, .ref ev, .ref er, .int el])), (eo, .inl (cI, 40, .inl g_30)), (er, .inl (cZ, 40, .inl g2_30))] H := hP
  have hD : va_D A [(r0, .inr (3, [.ref e0, .ref z0, .ref o0, .ref t0, .int x_39])), (z0, .inr (1, [.ref e0, .int zn, .ref zw, .ref zv, .ref zs, .int zl, .int zm, .int zk])), (zw, .inr (2, [.ref zwa, .int sz2_21])), (zwa, .inl (cI, 40, .inl f2_21)), (zs, .inl (cI, 11, .inl sf2_21)), (eh, .inl (cI, 40, .inl fh)), (e0, .inr (0, [.ref eh, .ref eo, .ref ev, .ref er, .int el])), (eo, .inl (cI, 40, .inl g_30)), (er, .inl (cZ, 40, .inl g2_30))] := hD
  refine lv_iload_n hx hb dX3_quench_43 rfl (lv_at hl 0 rfl) ?_
  have hP9 := va_P_subm (ws' := [(r0, .inr (3, [.ref e0, .ref z0, .ref o0, .ref t0, .int x_39])), (e0, .inr (0, [.ref eh, .ref eo, .ref ev, .ref er, .int el])), (eh, .inl (cI, 40, .inl fh)), (eo, .inl (cI, 40, .inl g_30)), (er, .inl (cZ, 40, .inl g2_30)), (z0, .inr (1, [.ref e0, .int zn, .ref zw, .ref zv, .ref zs, .int zl, .int zm, .int zk])), (zw, .inr (2, [.ref zwa, .int sz2_21])), (zwa, .inl (cI, 40, .inl f2_21)), (zs, .inl (cI, 11, .inl sf2_21))]) hP [0, 6, 5, 7, 8, 1, 2, 3, 4] rfl
  have hD9 := hD.sub (ws' := [(r0, .inr (3, [.ref e0, .ref z0, .ref o0, .ref t0, .int x_39])), (e0, .inr (0, [.ref eh, .ref eo, .ref ev, .ref er, .int el])), (eh, .inl (cI, 40, .inl fh)), (eo, .inl (cI, 40, .inl g_30)), (er, .inl (cZ, 40, .inl g2_30)), (z0, .inr (1, [.ref e0, .int zn, .ref zw, .ref zv, .ref zs, .int zl, .int zm, .int zk])), (zw, .inr (2, [.ref zwa, .int sz2_21])), (zwa, .inl (cI, 40, .inl f2_21)), (zs, .inl (cI, 11, .inl sf2_21))]) [0, 6, 5, 7, 8, 1, 2, 3, 4] rfl rfl
  exact W.iret (v := x_15) hx hb hr (fun t ht hW => ⟨⟨x_15, ⟨x_39, g_30, g2_30, sz2_21, f2_21, sf2_21⟩, rfl, ⟨v_15, v_30, w_30, by rw [e_39, v_38]; rfl, v_21⟩, ⟨by rw [ht]; exact hP9, hD9⟩⟩, hS.F ht⟩) hS.2.2 dX3_quench_44
set_option maxHeartbeats 4000000 in
set_option maxRecDepth 100000 in
theorem k_X3_rake_0 (l : Launch) (hl0 : l.stackTraces = false) (D : va_G) (cI cZ cJ cK : ClassId) (hz9 : Nat) (r0 : Nat) (h0 : Int32) (e0 : Nat) (z0 : Nat) (o0 : Nat) (t0 : Nat) (qn : Int32) (eh : Nat) (eo : Nat) (ev : Nat) (er : Nat) (el : Int32) (fh : Nat → Int32) (fo : Nat → Int32) (fm : Nat → Int32) (fr : Nat → Int32) (zn : Int32) (zw : Nat) (zv : Nat) (zs : Nat) (zl : Int32) (zm : Int32) (zk : Int32) (zwa : Nat) (zsz : Int32) (zf : Nat → Int32) (zva : Nat) (zsy : Int32) (zg : Nat → Int32) (zsf : Nat → Int32) (lo n : Nat) (Hh : Nat → Nat) (L : List Nat) (hem : embIs el fh n Hh) (hhe : heaIs zl zsz zf zsf lo n Hh L) (hhv : h0 = iI (0)) (hok : heaOk lo Hh L) (hnt : zn = iI 1) : vx_Met l yX3_rake (ws_ yX3_rake cX3_rake 4 (Option.some .int)) ({ frames := 6, cells := 1, slots := 6, locals := 120 }) (va_Pc [.ref r0, .int h0] (wPre D cI cZ cJ cK hz9 [(r0, .inr (3, [.ref e0, .ref z0, .ref o0, .ref t0, .int qn])), (e0, .inr (0, [.ref eh, .ref eo, .ref ev, .ref er, .int el])), (eh, .inl (cI, 40, .inl fh)), (eo, .inl (cI, 40, .inl fo)), (ev, .inl (cI, 40, .inl fm)), (er, .inl (cZ, 40, .inl fr)), (z0, .inr (1, [.ref e0, .int zn, .ref zw, .ref zv, .ref zs, .int zl, .int zm, .int zk])), (zw, .inr (2, [.ref zwa, .int zsz])), (zwa, .inl (cI, 40, .inl zf)), (zv, .inr (2, [.ref zva, .int zsy])), (zva, .inl (cI, 40, .inl zg)), (zs, .inl (cI, 11, .inl zsf))])) (va_Qi (fun r (u : (Nat → Int32) × (Nat → Int32) × (Nat → Int32) × Int32 × Int32 × Int32 × Int32 × (Nat → Int32) × Int32 × (Nat → Int32) × (Nat → Int32)) => (r = iI (↑((rkL lo Hh L).headD 0))) ∧ (L ≠ []) ∧ (heaIs u.2.2.2.1 u.2.2.2.2.2.2.1 u.2.2.2.2.2.2.2.1 u.2.2.2.2.2.2.2.2.2.2 (rkLo lo Hh L) n Hh (rkL lo Hh L).tail) ∧ (u.2.2.2.2.1 = zm + iI (↑(rkB lo Hh L).length)) ∧ (u.2.2.2.2.2.1 = zk + 1) ∧ (u.2.1 = mvA 1 fm (rkB lo Hh L)) ∧ (u.1 = upd fo ((rkL lo Hh L).headD 0) (iI (-1))) ∧ (u.2.2.1 = upd fr ((rkL lo Hh L).headD 0) (iI 1))) (fun (u : (Nat → Int32) × (Nat → Int32) × (Nat → Int32) × Int32 × Int32 × Int32 × Int32 × (Nat → Int32) × Int32 × (Nat → Int32) × (Nat → Int32)) t => wPost D (va_A [(r0, .inr (3, [.ref e0, .ref z0, .ref o0, .ref t0, .int qn])), (e0, .inr (0, [.ref eh, .ref eo, .ref ev, .ref er, .int el])), (eh, .inl (cI, 40, .inl fh)), (eo, .inl (cI, 40, .inl fo)), (ev, .inl (cI, 40, .inl fm)), (er, .inl (cZ, 40, .inl fr)), (z0, .inr (1, [.ref e0, .int zn, .ref zw, .ref zv, .ref zs, .int zl, .int zm, .int zk])), (zw, .inr (2, [.ref zwa, .int zsz])), (zwa, .inl (cI, 40, .inl zf)), (zv, .inr (2, [.ref zva, .int zsy])), (zva, .inl (cI, 40, .inl zg)), (zs, .inl (cI, 11, .inl zsf))] hz9) [(r0, .inr (3, [.ref e0, .ref z0, .ref o0, .ref t0, .int qn])), (e0, .inr (0, [.ref eh, .ref eo, .ref ev, .ref er, .int el])), (eh, .inl (cI, 40, .inl fh)), (eo, .inl (cI, 40, .inl u.1)), (ev, .inl (cI, 40, .inl u.2.1)), (er, .inl (cZ, 40, .inl u.2.2.1)), (z0, .inr (1, [.ref e0, .int zn, .ref zw, .ref zv, .ref zs, .int u.2.2.2.1, .int u.2.2.2.2.1, .int u.2.2.2.2.2.1])), (zw, .inr (2, [.ref zwa, .int u.2.2.2.2.2.2.1])), (zwa, .inl (cI, 40, .inl u.2.2.2.2.2.2.2.1)), (zv, .inr (2, [.ref zva, .int u.2.2.2.2.2.2.2.2.1])), (zva, .inl (cI, 40, .inl u.2.2.2.2.2.2.2.2.2.1)), (zs, .inl (cI, 11, .inl u.2.2.2.2.2.2.2.2.2.2))] t) (va_A [(r0, .inr (3, [.ref e0, .ref z0, .ref o0, .ref t0, .int qn])), (e0, .inr (0, [.ref eh, .ref eo, .ref ev, .ref er, .int el])), (eh, .inl (cI, 40, .inl fh)), (eo, .inl (cI, 40, .inl fo)), (ev, .inl (cI, 40, .inl fm)), (er, .inl (cZ, 40, .inl fr)), (z0, .inr (1, [.ref e0, .int zn, .ref zw, .ref zv, .ref zs, .int zl, .int zm, .int zk])), (zw, .inr (2, [.ref zwa, .int zsz])), (zwa, .inl (cI, 40, .inl zf)), (zv, .inr (2, [.ref zva, .int zsy])), (zva, .inl (cI, 40, .inl zg)), (zs, .inl (cI, 11, .inl zsf))] hz9)) (vx_X (fun (_ : Unit) => True) (fun E _ _ => E = xS ∧ L = []) (fun _ => False)) 1 6 (va_A [(r0, .inr (3, [.ref e0, .ref z0, .ref o0, .ref t0, .int qn])), (e0, .inr (0, [.ref eh, .ref eo, .ref ev, .ref er, .int el])), (eh, .inl (cI, 40, .inl fh)), (eo, .inl (cI, 40, .inl fo)), (ev, .inl (cI, 40, .inl fm)), (er, .inl (cZ, 40, .inl fr)), (z0, .inr (1, [.ref e0, .int zn, .ref zw, .ref zv, .ref zs, .int zl, .int zm, .int zk])), (zw, .inr (2, [.ref zwa, .int zsz])), (zwa, .inl (cI, 40, .inl zf)), (zv, .inr (2, [.ref zva, .int zsy])), (zva, .inl (cI, 40, .inl zg)), (zs, .inl (cI, 11, .inl zsf))] hz9) := by
  refine vx_ofW (cc := cX3_rake) (maxL := 4) (ret := (Option.some .int)) (by decide) rfl ?_
  intro p e s m args below meth c s₁ hBd hml hext hv
  obtain ⟨rfl, hsz, hP, hD, hK, hT, hZ⟩ := hv
  have hx := hBd.exec
  have hb := hBd.bytes
  have hr := hBd.returns
  have hts : ∀ w ∈ lw_G, w.before _ s = true := fun w h => atoms_spec (ws := (ws_ yX3_rake cX3_rake 4 (Option.some .int))) hBd.pre w (List.mem_cons_of_mem _ h)
  have hown : s.vm.findClass RX3 = some m.cls := findClass_of_methodNamed hBd.named
  have hlocks := hBd.notSynchronized
  subst hsz
  have hD := hD.self (sz := s.heap.size)
  have hZA := hZ.own hP
  generalize hAe : va_A [(r0, .inr (3, [.ref e0, .ref z0, .ref o0, .ref t0, .int qn])), (e0, .inr (0, [.ref eh, .ref eo, .ref ev, .ref er, .int el])), (eh, .inl (cI, 40, .inl fh)), (eo, .inl (cI, 40, .inl fo)), (ev, .inl (cI, 40, .inl fm)), (er, .inl (cZ, 40, .inl fr)), (z0, .inr (1, [.ref e0, .int zn, .ref zw, .ref zv, .ref zs, .int zl, .int zm, .int zk])), (zw, .inr (2, [.ref zwa, .int zsz])), (zwa, .inl (cI, 40, .inl zf)), (zv, .inr (2, [.ref zva, .int zsy])), (zva, .inl (cI, 40, .inl zg)), (zs, .inl (cI, 11, .inl zsf))] s.heap.size = A at hD hZA ⊢
  have hA : ∀ q : Nat, s.heap.size ≤ q → A q := fun q h => by rw [← hAe]; exact Or.inr h
  have hS : va_S (fun _ => False) s.heap s.heap [] := va_S.rf
  have hl := lv_entry ([.ref r0, .int h0]) (n := 4) (Nat.le_of_ble_eq_true rfl)
  rw [lg_entry_eq]
  generalize (lg_sl ([.ref r0, .int h0]) ++ List.replicate (4 - (lg_sl ([.ref r0, .int h0])).length) Slot.unset).toArray = ls at hl ⊢
  have hl : lv_has ls 4 [(0, .ref r0), (1, .int h0)] := hl
  have hP : va_P D vwCl [(r0, .inr (3, [.ref e0, .ref z0, .ref o0, .ref t0, .int qn])), (e0, .inr (0, [.ref eh, .ref eo, .ref ev, .ref er, .int el])), (eh, .inl (cI, 40, .inl fh)), (eo, .inl (cI, 40, .inl fo)), (ev, .inl (cI, 40, .inl fm)), (er, .inl (cZ, 40, .inl fr)), (z0, .inr (1, [.ref e0, .int zn, .ref zw, .ref zv, .ref zs, .int zl, .int zm, .int zk])), (zw, .inr (2, [.ref zwa, .int zsz])), (zwa, .inl (cI, 40, .inl zf)), (zv, .inr (2, [.ref zva, .int zsy])), (zva, .inl (cI, 40, .inl zg)), (zs, .inl (cI, 11, .inl zsf))] s.heap := hP
  obtain ⟨hn, hn4, hfh⟩ := id hem
  obtain ⟨hlo, hlo4, hrow, hsz, hLx⟩ := id hhe
  have hl4 := hrow.2.1
  refine lv_aload_n hx hb dX3_rake_0 rfl (lv_at hl 0 rfl) ?_
  refine lv_iload_n hx hb dX3_rake_1 rfl (lv_at hl 1 rfl) ?_
  refine cr_r (va_runV (As := [.int h0]) (rest := []) ⟨hx, hb, hml, hown, hts⟩ (k_X3_hearthOf_0 l D cI cZ cJ cK _ r0 h0 e0 z0 o0 t0 qn (hhv.trans (congrArg iI (by omega)))) (cwV 1 hts (gV qw119 qw121 qw0 qw10 qw122) rfl rfl rfl (by decide +kernel) ⟨Nat.le_of_ble_eq_true rfl, Nat.le_of_ble_eq_true rfl⟩) (pv (ci := 3) (r := (RX3, TX3, 5)) (q0 := 0) hP hD hK hT hZ hS [0] rfl rfl rfl rfl) rfl rfl hl.1 rfl (lv_room (Nat.le_of_ble_eq_true rfl)) dX3_rake_2 ⟨Nat.le_of_ble_eq_true rfl, Nat.le_of_ble_eq_true rfl⟩) hS hP (fun x_2 H locs hw_2 hP hS => ?_)
  have hw_2 : (x_2 = z0) := hw_2
  have v_2 := hw_2
  have v_2 := v_2.symm
  subst v_2
  refine lv_astore_n (lv' := [(2, .ref z0), (0, .ref r0), (1, .int h0)]) hx hb dX3_rake_5 rfl hl (by decide) rfl (fun ls hl => ?_)
  refine lv_aload_n hx hb dX3_rake_6 rfl (lv_at hl 0 rfl) ?_
  refine cr_i (va_runV (As := []) (rest := []) ⟨hx, hb, hml, hown, hts⟩ (k_X1_size l D cI cZ cJ cK _ z0 e0 zn zw zv zs zl zm zk zwa zsz ) (cwV 0 hts (gV qw191 qw192 qw193 qw12 qw194) rfl rfl rfl (by decide +kernel) ⟨Nat.le_of_ble_eq_true rfl, Nat.le_of_ble_eq_true rfl⟩) (pv (ci := 1) (r := (RX1, TX1, 8)) (q0 := 6) hP hD hK hT hZ hS [6, 7] rfl rfl rfl rfl) rfl rfl hl.1 rfl (lv_room (Nat.le_of_ble_eq_true rfl)) dX3_rake_7 ⟨Nat.le_of_ble_eq_true rfl, Nat.le_of_ble_eq_true rfl⟩) hS hP (fun x_7 H locs hw_7 hP hS => ?_)
  have hw_7 : (x_7 = zsz) := hw_7
  have v_7 := hw_7
  refine lz_if_ne (tgt := 23) hx hb (v_7.trans hrow.1) (by omega) dX3_rake_10 (by decide) (fun c_10 => ?_) (fun c_10 => ?_)
  · have hne : L ≠ [] := fun q => by rw [q] at c_10; exact c_10 rfl
    refine lv_aload_n hx hb dX3_rake_23 rfl (lv_at hl 0 rfl) ?_
    have hS := va_S.weak (A := A) hS
    have hZ := hZA
    refine cm_i (wr := [(r0, .inr (3, [.ref e0, .ref z0, .ref o0, .ref t0, .int qn])), (eo, .inl (cI, 40, .inl fo)), (er, .inl (cZ, 40, .inl fr))]) (va_runV (As := []) (rest := []) ⟨hx, hb, hml, hown, hts⟩ (k_X1_rakeOnce l D cI cZ cJ cK _ z0 e0 zn zw zv zs zl zm zk zwa zsz zf zva zsy zg zsf eh eo ev er el fh fm 1 lo n Hh L (hem) (hhe) (hnt) (Or.inr rfl) (hok) (hne)) (cwV 0 hts (gV qw215 qw216 qw217 qw12 qw218) rfl rfl rfl (by decide +kernel) ⟨Nat.le_of_ble_eq_true rfl, Nat.le_of_ble_eq_true rfl⟩) (pv (ci := 1) (r := (RX1, TX1, 8)) (q0 := 6) hP hD hK hT hZ hS [6, 7, 8, 9, 10, 11, 1, 2, 4] rfl rfl rfl rfl) rfl rfl hl.1 rfl (lv_room (Nat.le_of_ble_eq_true rfl)) dX3_rake_24 ⟨Nat.le_of_ble_eq_true rfl, Nat.le_of_ble_eq_true rfl⟩) hS hP hD hA [6, 7, 8, 9, 10, 11, 1, 2, 4] [0, 3, 5] rfl rfl rfl (by decide) (fun x_24 u_24 H locs hw_24 hP hD hS => ?_)
    obtain ⟨lw2_24, mm2_24, rk2_24, sz2_24, f2_24, sy2_24, g2_24, sf2_24, fm2_24⟩ := u_24
    have hP : va_P D vwCl [(r0, .inr (3, [.ref e0, .ref z0, .ref o0, .ref t0, .int qn])), (eo, .inl (cI, 40, .inl fo)), (er, .inl (cZ, 40, .inl fr)), (z0, .inr (1, [.ref e0, .int zn, .ref zw, .ref zv, .ref zs, .int lw2_24, .int mm2_24, .int rk2_24])), (zw, .inr (2, [.ref zwa, .int sz2_24])), (zwa, .inl (cI, 40, .inl f2_24)), (zv, .inr (2, [.ref zva, .int sy2_24])), (zva, .inl (cI, 40, .inl g2_24)), (zs, .inl (cI, 11, .inl sf2_24)), (e0, .inr (0, [.ref eh, .ref eo, .ref ev, .ref er, .int el])), (eh, .inl (cI, 40, .inl fh)), (ev, .inl (cI, 40, .inl fm2_24))] H := hP
    have hD : va_D A [(r0, .inr (3, [.ref e0, .ref z0, .ref o0, .ref t0, .int qn])), (eo, .inl (cI, 40, .inl fo)), (er, .inl (cZ, 40, .inl fr)), (z0, .inr (1, [.ref e0, .int zn, .ref zw, .ref zv, .ref zs, .int lw2_24, .int mm2_24, .int rk2_24])), (zw, .inr (2, [.ref zwa, .int sz2_24])), (zwa, .inl (cI, 40, .inl f2_24)), (zv, .inr (2, [.ref zva, .int sy2_24])), (zva, .inl (cI, 40, .inl g2_24)), (zs, .inl (cI, 11, .inl sf2_24)), (e0, .inr (0, [.ref eh, .ref eo, .ref ev, .ref er, .int el])), (eh, .inl (cI, 40, .inl fh)), (ev, .inl (cI, 40, .inl fm2_24))] := hD
    have hw_24 : (x_24 = iI (↑((rkL lo Hh L).headD 0))) ∧ (heaIs lw2_24 sz2_24 f2_24 sf2_24 (rkLo lo Hh L) n Hh (rkL lo Hh L).tail) ∧ (mm2_24 = zm + iI (↑(rkB lo Hh L).length)) ∧ (rk2_24 = zk + 1) ∧ (fm2_24 = mvA 1 fm (rkB lo Hh L)) := hw_24
    obtain ⟨v_24, h_24, m_24, k_24, q_24⟩ := hw_24
    refine lv_istore_n (lv' := [(3, .int x_24), (2, .ref z0), (0, .ref r0), (1, .int h0)]) hx hb dX3_rake_27 rfl hl (by decide) rfl (fun ls hl => ?_)
    have hxn : (rkL lo Hh L).headD 0 < n := hLx _ ((rkL_perm hok).mem_iff.mp (by rw [← headD_getD]; exact getD_in (rkL_ne hok hne).1))
    refine lv_aload_n hx hb dX3_rake_28 rfl (lv_at hl 2 rfl) ?_
    refine va_get (D := D) (ci := 3) (v := .ref e0) (C := RX3) (T := TX3) (N := 5) hx hb hts iX3 hown hK hP 0 rfl rfl 0 (by decide) (hts _ qw99) (fun _ h9 => h9) rfl dX3_rake_29 ?_
    refine lv_iload_n hx hb dX3_rake_32 rfl (lv_at hl 0 rfl) ?_
    refine lz_iconst hx hb dX3_rake_33 (fun x_33 v_33 => ?_)
    refine cm_v (wr := [(r0, .inr (3, [.ref e0, .ref z0, .ref o0, .ref t0, .int qn])), (z0, .inr (1, [.ref e0, .int zn, .ref zw, .ref zv, .ref zs, .int lw2_24, .int mm2_24, .int rk2_24])), (zw, .inr (2, [.ref zwa, .int sz2_24])), (zwa, .inl (cI, 40, .inl f2_24)), (zv, .inr (2, [.ref zva, .int sy2_24])), (zva, .inl (cI, 40, .inl g2_24)), (zs, .inl (cI, 11, .inl sf2_24)), (eh, .inl (cI, 40, .inl fh)), (ev, .inl (cI, 40, .inl fm2_24))]) (va_runV (As := [.int x_24, .int x_33]) (rest := []) ⟨hx, hb, hml, hown, hts⟩ (k_X0_goOut l D cI cZ cJ cK _ e0 x_24 x_33 eh eo ev er el fo fr n ((rkL lo Hh L).headD 0) 1 (hn) (hn4) (v_24.trans (congrArg iI (by omega))) (hxn) (v_33.trans (congrArg iI (by omega))) (Or.inr rfl)) (cwV 2 hts (gV qw297 qw298 qw299 qw11 qw300) rfl rfl rfl (by decide +kernel) ⟨Nat.le_of_ble_eq_true rfl, Nat.le_of_ble_eq_true rfl⟩) (pv (ci := 0) (r := (RX0, TX0, 5)) (q0 := 9) hP hD hK hT hZ hS [9, 1, 2] rfl rfl rfl rfl) rfl rfl hl.1 rfl (lv_room (Nat.le_of_ble_eq_true rfl)) dX3_rake_34 ⟨Nat.le_of_ble_eq_true rfl, Nat.le_of_ble_eq_true rfl⟩) hS hP hD hA [9, 1, 2] [0, 3, 4, 5, 6, 7, 8, 10, 11] rfl rfl rfl (by decide) (fun u_34 H locs hw_34 hP hD hS => ?_)
    obtain ⟨g_34, g2_34⟩ := u_34
    have hP : va_P D vwCl [(r0, .inr (3, [.ref e0, .ref z0, .ref o0, .ref t0, .int qn])), (z0, .inr (1, [.ref e0, .int zn, .ref zw, .ref zv, .ref zs, .int lw2_24, .int mm2_24, .int rk2_24])), (zw, .inr (2, [.ref zwa, .int sz2_24])), (zwa, .inl (cI, 40, .inl f2_24)), (zv, .inr (2, [.ref zva, .int sy2_24])), (zva, .inl (cI, 40, .inl g2_24)), (zs, .inl (cI, 11, .inl sf2_24)), (eh, .inl (cI, 40, .inl fh)), (ev, .inl (cI, 40, .inl fm2_24)), (e0, .inr (0, [.ref eh, .ref eo, .ref ev, .ref er, .int el])), (eo, .inl (cI, 40, .inl g_34)), (er, .inl (cZ, 40, .inl g2_34))] H := hP
    have hD : va_D A [(r0, .inr (3, [.ref e0, .ref z0, .ref o0, .ref t0, .int qn])), (z0, .inr (1, [.ref e0, .int zn, .ref zw, .ref zv, .ref zs, .int lw2_24, .int mm2_24, .int rk2_24])), (zw, .inr (2, [.ref zwa, .int sz2_24])), (zwa, .inl (cI, 40, .inl f2_24)), (zv, .inr (2, [.ref zva, .int sy2_24])), (zva, .inl (cI, 40, .inl g2_24)), (zs, .inl (cI, 11, .inl sf2_24)), (eh, .inl (cI, 40, .inl fh)), (ev, .inl (cI, 40, .inl fm2_24)), (e0, .inr (0, [.ref eh, .ref eo, .ref ev, .ref er, .int el])), (eo, .inl (cI, 40, .inl g_34)), (er, .inl (cZ, 40, .inl g2_34))] := hD
    have hw_34 : (g_34 = upd fo ((rkL lo Hh L).headD 0) (iI (-1))) ∧ (g2_34 = upd fr ((rkL lo Hh L).headD 0) (iI 1)) := hw_34
    obtain ⟨v_34, w_34⟩ := hw_34
    refine lv_iload_n hx hb dX3_rake_37 rfl (lv_at hl 0 rfl) ?_
    have hP9 := va_P_subm (ws' := [(r0, .inr (3, [.ref e0, .ref z0, .ref o0, .ref t0, .int qn])), (e0, .inr (0, [.ref eh, .ref eo, .ref ev, .ref er, .int el])), (eh, .inl (cI, 40, .inl fh)), (eo, .inl (cI, 40, .inl g_34)), (ev, .inl (cI, 40, .inl fm2_24)), (er, .inl (cZ, 40, .inl g2_34)), (z0, .inr (1, [.ref e0, .int zn, .ref zw, .ref zv, .ref zs, .int lw2_24, .int mm2_24, .int rk2_24])), (zw, .inr (2, [.ref zwa, .int sz2_24])), (zwa, .inl (cI, 40, .inl f2_24)), (zv, .inr (2, [.ref zva, .int sy2_24])), (zva, .inl (cI, 40, .inl g2_24)), (zs, .inl (cI, 11, .inl sf2_24))]) hP [0, 9, 7, 10, 8, 11, 1, 2, 3, 4, 5, 6] rfl
    have hD9 := hD.sub (ws' := [(r0, .inr (3, [.ref e0, .ref z0, .ref o0, .ref t0, .int qn])), (e0, .inr (0, [.ref eh, .ref eo, .ref ev, .ref er, .int el])), (eh, .inl (cI, 40, .inl fh)), (eo, .inl (cI, 40, .inl g_34)), (ev, .inl (cI, 40, .inl fm2_24)), (er, .inl (cZ, 40, .inl g2_34)), (z0, .inr (1, [.ref e0, .int zn, .ref zw, .ref zv, .ref zs, .int lw2_24, .int mm2_24, .int rk2_24])), (zw, .inr (2, [.ref zwa, .int sz2_24])), (zwa, .inl (cI, 40, .inl f2_24)), (zv, .inr (2, [.ref zva, .int sy2_24])), (zva, .inl (cI, 40, .inl g2_24)), (zs, .inl (cI, 11, .inl sf2_24))]) [0, 9, 7, 10, 8, 11, 1, 2, 3, 4, 5, 6] rfl rfl
    refine vx_ret ?_
    refine W.widen (k := 1) (n := 6) (by omega) (by omega) ?_
    exact W.iret (v := x_24) hx hb hr (fun t ht hW => ⟨⟨x_24, ⟨g_34, fm2_24, g2_34, lw2_24, mm2_24, rk2_24, sz2_24, f2_24, sy2_24, g2_24, sf2_24⟩, rfl, ⟨v_24, hne, h_24, m_24, k_24, q_24, v_34, w_34⟩, ⟨by rw [ht]; exact hP9, hD9⟩⟩, hS.F ht⟩) hS.2.2 dX3_rake_38
  · exact lz_throw (text := "the hearth has no embers") hx hb hl0 hown hts hT hZ hS (by rw [hml]; exact hl.1) (by decide +kernel) at_S (by decide +kernel) dX3_rake_13 dX3_rake_16 dX3_rake_17 dX3_rake_19 dX3_rake_22 (fun x hx9 => (hext x hx9).elim) (Nat.le_of_ble_eq_true rfl) (Nat.le_of_ble_eq_true rfl) (Nat.le_of_ble_eq_true rfl) (Nat.le_of_ble_eq_true rfl) hlocks (fun t hv1 h1 h2 => ⟨(), trivial, ⟨rfl, List.length_eq_zero_iff.mp (by omega)⟩, va_F_grow hS h1 h2⟩) (fun z hz => (hS.2.2 z hz).elim) (by omega) (by omega)
set_option maxHeartbeats 4000000 in
set_option maxRecDepth 100000 in
theorem k_X3_raise_0 (l : Launch) (hl0 : l.stackTraces = false) (D : va_G) (cI cZ cJ cK : ClassId) (hz9 : Nat) (r0 : Nat) (h0 : Int32) (x0 : Int32) (e0 : Nat) (z0 : Nat) (o0 : Nat) (t0 : Nat) (qn : Int32) (eh : Nat) (eo : Nat) (ev : Nat) (er : Nat) (el : Int32) (fh : Nat → Int32) (fm : Nat → Int32) (zn : Int32) (zw : Nat) (zv : Nat) (zs : Nat) (zl : Int32) (zm : Int32) (zk : Int32) (zwa : Nat) (zsz : Int32) (zf : Nat → Int32) (zva : Nat) (zsy : Int32) (zg : Nat → Int32) (zsf : Nat → Int32) (lo n : Nat) (Hh : Nat → Nat) (L : List Nat) (x : Int) (hem : embIs el fh n Hh) (hhe : heaIs zl zsz zf zsf lo n Hh L) (hhv : h0 = iI (0)) (hxv : x0 = iI x) (hxr : -2147483648 ≤ x ∧ x < 2147483648) (hok : heaOk lo Hh L) (hnt : zn = iI 1) : vx_Met l yX3_raise (ws_ yX3_raise cX3_raise 4 (Option.some .int)) ({ frames := 6, cells := 1, slots := 6, locals := 119 }) (va_Pc [.ref r0, .int h0, .int x0] (wPre D cI cZ cJ cK hz9 [(r0, .inr (3, [.ref e0, .ref z0, .ref o0, .ref t0, .int qn])), (e0, .inr (0, [.ref eh, .ref eo, .ref ev, .ref er, .int el])), (eh, .inl (cI, 40, .inl fh)), (ev, .inl (cI, 40, .inl fm)), (z0, .inr (1, [.ref e0, .int zn, .ref zw, .ref zv, .ref zs, .int zl, .int zm, .int zk])), (zw, .inr (2, [.ref zwa, .int zsz])), (zwa, .inl (cI, 40, .inl zf)), (zv, .inr (2, [.ref zva, .int zsy])), (zva, .inl (cI, 40, .inl zg)), (zs, .inl (cI, 11, .inl zsf))])) (va_Qi (fun r (u : (Nat → Int32) × Int32 × Int32 × Int32 × (Nat → Int32) × Int32 × (Nat → Int32) × (Nat → Int32)) => (r = iI (if x = (↑lo : Int) then 0 else ↑L.length)) ∧ ((↑lo : Int) ≤ x ∧ x ≤ ↑(minL Hh L)) ∧ (heaIs u.2.1 u.2.2.2.1 u.2.2.2.2.1 u.2.2.2.2.2.2.2 x.toNat n Hh (if x = (↑lo : Int) then L else insA (ka x.toNat Hh) [] L)) ∧ (u.2.2.1 = zm + iI (if x = (↑lo : Int) then 0 else ↑L.length)) ∧ (u.1 = if x = (↑lo : Int) then fm else mvA 1 fm L)) (fun (u : (Nat → Int32) × Int32 × Int32 × Int32 × (Nat → Int32) × Int32 × (Nat → Int32) × (Nat → Int32)) t => wPost D (va_A [(r0, .inr (3, [.ref e0, .ref z0, .ref o0, .ref t0, .int qn])), (e0, .inr (0, [.ref eh, .ref eo, .ref ev, .ref er, .int el])), (eh, .inl (cI, 40, .inl fh)), (ev, .inl (cI, 40, .inl fm)), (z0, .inr (1, [.ref e0, .int zn, .ref zw, .ref zv, .ref zs, .int zl, .int zm, .int zk])), (zw, .inr (2, [.ref zwa, .int zsz])), (zwa, .inl (cI, 40, .inl zf)), (zv, .inr (2, [.ref zva, .int zsy])), (zva, .inl (cI, 40, .inl zg)), (zs, .inl (cI, 11, .inl zsf))] hz9) [(r0, .inr (3, [.ref e0, .ref z0, .ref o0, .ref t0, .int qn])), (e0, .inr (0, [.ref eh, .ref eo, .ref ev, .ref er, .int el])), (eh, .inl (cI, 40, .inl fh)), (ev, .inl (cI, 40, .inl u.1)), (z0, .inr (1, [.ref e0, .int zn, .ref zw, .ref zv, .ref zs, .int u.2.1, .int u.2.2.1, .int zk])), (zw, .inr (2, [.ref zwa, .int u.2.2.2.1])), (zwa, .inl (cI, 40, .inl u.2.2.2.2.1)), (zv, .inr (2, [.ref zva, .int u.2.2.2.2.2.1])), (zva, .inl (cI, 40, .inl u.2.2.2.2.2.2.1)), (zs, .inl (cI, 11, .inl u.2.2.2.2.2.2.2))] t) (va_A [(r0, .inr (3, [.ref e0, .ref z0, .ref o0, .ref t0, .int qn])), (e0, .inr (0, [.ref eh, .ref eo, .ref ev, .ref er, .int el])), (eh, .inl (cI, 40, .inl fh)), (ev, .inl (cI, 40, .inl fm)), (z0, .inr (1, [.ref e0, .int zn, .ref zw, .ref zv, .ref zs, .int zl, .int zm, .int zk])), (zw, .inr (2, [.ref zwa, .int zsz])), (zwa, .inl (cI, 40, .inl zf)), (zv, .inr (2, [.ref zva, .int zsy])), (zva, .inl (cI, 40, .inl zg)), (zs, .inl (cI, 11, .inl zsf))] hz9)) (vx_X (fun (_ : Unit) => True) (fun E _ _ => E = xA ∧ ¬ ((↑lo : Int) ≤ x ∧ x ≤ ↑(minL Hh L))) (fun _ => False)) 1 6 (va_A [(r0, .inr (3, [.ref e0, .ref z0, .ref o0, .ref t0, .int qn])), (e0, .inr (0, [.ref eh, .ref eo, .ref ev, .ref er, .int el])), (eh, .inl (cI, 40, .inl fh)), (ev, .inl (cI, 40, .inl fm)), (z0, .inr (1, [.ref e0, .int zn, .ref zw, .ref zv, .ref zs, .int zl, .int zm, .int zk])), (zw, .inr (2, [.ref zwa, .int zsz])), (zwa, .inl (cI, 40, .inl zf)), (zv, .inr (2, [.ref zva, .int zsy])), (zva, .inl (cI, 40, .inl zg)), (zs, .inl (cI, 11, .inl zsf))] hz9) := by
  refine vx_ofW (cc := cX3_raise) (maxL := 4) (ret := (Option.some .int)) (by decide) rfl ?_
  intro p e s m args below meth c s₁ hBd hml hext hv
  obtain ⟨rfl, hsz, hP, hD, hK, hT, hZ⟩ := hv
  have hx := hBd.exec
  have hb := hBd.bytes
  have hr := hBd.returns
  have hts : ∀ w ∈ lw_G, w.before _ s = true := fun w h => atoms_spec (ws := (ws_ yX3_raise cX3_raise 4 (Option.some .int))) hBd.pre w (List.mem_cons_of_mem _ h)
  have hown : s.vm.findClass RX3 = some m.cls := findClass_of_methodNamed hBd.named
  have hlocks := hBd.notSynchronized
  subst hsz
  have hD := hD.self (sz := s.heap.size)
  have hZA := hZ.own hP
  generalize hAe : va_A [(r0, .inr (3, [.ref e0, .ref z0, .ref o0, .ref t0, .int qn])), (e0, .inr (0, [.ref eh, .ref eo, .ref ev, .ref er, .int el])), (eh, .inl (cI, 40, .inl fh)), (ev, .inl (cI, 40, .inl fm)), (z0, .inr (1, [.ref e0, .int zn, .ref zw, .ref zv, .ref zs, .int zl, .int zm, .int zk])), (zw, .inr (2, [.ref zwa, .int zsz])), (zwa, .inl (cI, 40, .inl zf)), (zv, .inr (2, [.ref zva, .int zsy])), (zva, .inl (cI, 40, .inl zg)), (zs, .inl (cI, 11, .inl zsf))] s.heap.size = A at hD hZA ⊢
  have hA : ∀ q : Nat, s.heap.size ≤ q → A q := fun q h => by rw [← hAe]; exact Or.inr h
  have hS : va_S (fun _ => False) s.heap s.heap [] := va_S.rf
  have hl := lv_entry ([.ref r0, .int h0, .int x0]) (n := 4) (Nat.le_of_ble_eq_true rfl)
  rw [lg_entry_eq]
  generalize (lg_sl ([.ref r0, .int h0, .int x0]) ++ List.replicate (4 - (lg_sl ([.ref r0, .int h0, .int x0])).length) Slot.unset).toArray = ls at hl ⊢
  have hl : lv_has ls 4 [(0, .ref r0), (1, .int h0), (2, .int x0)] := hl
  have hP : va_P D vwCl [(r0, .inr (3, [.ref e0, .ref z0, .ref o0, .ref t0, .int qn])), (e0, .inr (0, [.ref eh, .ref eo, .ref ev, .ref er, .int el])), (eh, .inl (cI, 40, .inl fh)), (ev, .inl (cI, 40, .inl fm)), (z0, .inr (1, [.ref e0, .int zn, .ref zw, .ref zv, .ref zs, .int zl, .int zm, .int zk])), (zw, .inr (2, [.ref zwa, .int zsz])), (zwa, .inl (cI, 40, .inl zf)), (zv, .inr (2, [.ref zva, .int zsy])), (zva, .inl (cI, 40, .inl zg)), (zs, .inl (cI, 11, .inl zsf))] s.heap := hP
  obtain ⟨hn, hn4, hfh⟩ := id hem
  obtain ⟨hlo, hlo4, hrow, hsz, hLx⟩ := id hhe
  have hmt := minL_top Hh L
  refine lv_aload_n hx hb dX3_raise_0 rfl (lv_at hl 0 rfl) ?_
  refine lv_iload_n hx hb dX3_raise_1 rfl (lv_at hl 1 rfl) ?_
  refine cr_r (va_runV (As := [.int h0]) (rest := []) ⟨hx, hb, hml, hown, hts⟩ (k_X3_hearthOf_0 l D cI cZ cJ cK _ r0 h0 e0 z0 o0 t0 qn (hhv.trans (congrArg iI (by omega)))) (cwV 1 hts (gV qw119 qw121 qw0 qw10 qw122) rfl rfl rfl (by decide +kernel) ⟨Nat.le_of_ble_eq_true rfl, Nat.le_of_ble_eq_true rfl⟩) (pv (ci := 3) (r := (RX3, TX3, 5)) (q0 := 0) hP hD hK hT hZ hS [0] rfl rfl rfl rfl) rfl rfl hl.1 rfl (lv_room (Nat.le_of_ble_eq_true rfl)) dX3_raise_2 ⟨Nat.le_of_ble_eq_true rfl, Nat.le_of_ble_eq_true rfl⟩) hS hP (fun x_2 H locs hw_2 hP hS => ?_)
  have hw_2 : (x_2 = z0) := hw_2
  have v_2 := hw_2
  have v_2 := v_2.symm
  subst v_2
  refine lv_astore_n (lv' := [(3, .ref z0), (0, .ref r0), (1, .int h0), (2, .int x0)]) hx hb dX3_raise_5 rfl hl (by decide) rfl (fun ls hl => ?_)
  refine lv_iload_n hx hb dX3_raise_6 rfl (lv_at hl 3 rfl) ?_
  refine lv_aload_n hx hb dX3_raise_7 rfl (lv_at hl 0 rfl) ?_
  refine cr_i (va_runV (As := []) (rest := [.int x0]) ⟨hx, hb, hml, hown, hts⟩ (k_X1_low l D cI cZ cJ cK _ z0 e0 zn zw zv zs zl zm zk ) (cwV 0 hts (gV qw348 qw349 qw350 qw12 qw351) rfl rfl rfl (by decide +kernel) ⟨Nat.le_of_ble_eq_true rfl, Nat.le_of_ble_eq_true rfl⟩) (pv (ci := 1) (r := (RX1, TX1, 8)) (q0 := 4) hP hD hK hT hZ hS [4] rfl rfl rfl rfl) rfl rfl hl.1 rfl (lv_room (Nat.le_of_ble_eq_true rfl)) dX3_raise_8 ⟨Nat.le_of_ble_eq_true rfl, Nat.le_of_ble_eq_true rfl⟩) hS hP (fun x_8 H locs hw_8 hP hS => ?_)
  have hw_8 : (x_8 = zl) := hw_8
  have v_8 := hw_8
  refine lz_icmp_lt (tgt := 22) hx hb hxv (v_8.trans hlo) ⟨by omega, by omega⟩ dX3_raise_11 (by decide) (fun c_11 => ?_) (fun c_11 => ?_)
  · exact lz_throw (text := "the low can not become this") hx hb hl0 hown hts hT hZ hS (by rw [hml]; exact hl.1) (by decide +kernel) at_A (by decide +kernel) dX3_raise_22 dX3_raise_25 dX3_raise_26 dX3_raise_28 dX3_raise_31 (fun x hx9 => (hext x hx9).elim) (Nat.le_of_ble_eq_true rfl) (Nat.le_of_ble_eq_true rfl) (Nat.le_of_ble_eq_true rfl) (Nat.le_of_ble_eq_true rfl) hlocks (fun t hv1 h1 h2 => ⟨(), trivial, ⟨rfl, by omega⟩, va_F_grow hS h1 h2⟩) (fun z hz => (hS.2.2 z hz).elim) (by omega) (by omega)
  · refine lv_iload_n hx hb dX3_raise_14 rfl (lv_at hl 3 rfl) ?_
    refine lv_aload_n hx hb dX3_raise_15 rfl (lv_at hl 0 rfl) ?_
    refine cr_i (va_runV (As := []) (rest := [.int x0]) ⟨hx, hb, hml, hown, hts⟩ (k_X1_leastHeat_k l D cI cZ cJ cK _ z0 e0 zn zw zv zs zl zm zk zwa zsz zf zsf eh eo ev er el fh lo n Hh L (hem) (hhe) (hok)) (cwV 0 hts (gV qw437 qw224 qw225 qw12 qw226) rfl rfl rfl (by decide +kernel) ⟨Nat.le_of_ble_eq_true rfl, Nat.le_of_ble_eq_true rfl⟩) (pv (ci := 1) (r := (RX1, TX1, 8)) (q0 := 4) hP hD hK hT hZ hS [4, 5, 6, 9, 1, 2] rfl rfl rfl rfl) rfl rfl hl.1 rfl (lv_room (Nat.le_of_ble_eq_true rfl)) dX3_raise_16 ⟨Nat.le_of_ble_eq_true rfl, Nat.le_of_ble_eq_true rfl⟩) hS hP (fun x_16 H locs hw_16 hP hS => ?_)
    have hw_16 : (x_16 = iI (↑(minL Hh L))) := hw_16
    have v_16 := hw_16
    refine lz_icmp_le (tgt := 32) hx hb hxv v_16 ⟨by omega, by omega⟩ dX3_raise_19 (by decide) (fun c_19 => ?_) (fun c_19 => ?_)
    · have hx2 : x0 = iI ↑x.toNat := hxv.trans (congrArg iI (by omega))
      refine lv_iload_n hx hb dX3_raise_32 rfl (lv_at hl 3 rfl) ?_
      refine lv_aload_n hx hb dX3_raise_33 rfl (lv_at hl 0 rfl) ?_
      refine cr_i (va_runV (As := []) (rest := [.int x0]) ⟨hx, hb, hml, hown, hts⟩ (k_X1_low l D cI cZ cJ cK _ z0 e0 zn zw zv zs zl zm zk ) (cwV 0 hts (gV qw348 qw349 qw350 qw12 qw351) rfl rfl rfl (by decide +kernel) ⟨Nat.le_of_ble_eq_true rfl, Nat.le_of_ble_eq_true rfl⟩) (pv (ci := 1) (r := (RX1, TX1, 8)) (q0 := 4) hP hD hK hT hZ hS [4] rfl rfl rfl rfl) rfl rfl hl.1 rfl (lv_room (Nat.le_of_ble_eq_true rfl)) dX3_raise_34 ⟨Nat.le_of_ble_eq_true rfl, Nat.le_of_ble_eq_true rfl⟩) hS hP (fun x_34 H locs hw_34 hP hS => ?_)
      have hw_34 : (x_34 = zl) := hw_34
      have v_34 := hw_34
      refine lz_icmp_ne (tgt := 44) hx hb hxv (v_34.trans hlo) ⟨by omega, by omega⟩ dX3_raise_37 (by decide) (fun c_37 => ?_) (fun c_37 => ?_)
      · refine lv_aload_n hx hb dX3_raise_44 rfl (lv_at hl 0 rfl) ?_
        refine lv_iload_n hx hb dX3_raise_45 rfl (lv_at hl 3 rfl) ?_
        have hS := va_S.weak (A := A) hS
        have hZ := hZA
        refine cm_i (wr := [(r0, .inr (3, [.ref e0, .ref z0, .ref o0, .ref t0, .int qn]))]) (va_runV (As := [.int x0]) (rest := []) ⟨hx, hb, hml, hown, hts⟩ (k_X1_riseTo l D cI cZ cJ cK _ z0 x0 e0 zn zw zv zs zl zm zk zwa zsz zf zva zsy zg zsf eh eo ev er el fh fm 1 lo n Hh L x.toNat (hem) (hhe) (hnt) (Or.inr rfl) (hx2) (by omega)) (cwV 1 hts (gV qw558 qw559 qw560 qw12 qw561) rfl rfl rfl (by decide +kernel) ⟨Nat.le_of_ble_eq_true rfl, Nat.le_of_ble_eq_true rfl⟩) (pv (ci := 1) (r := (RX1, TX1, 8)) (q0 := 4) hP hD hK hT hZ hS [4, 5, 6, 7, 8, 9, 1, 2, 3] rfl rfl rfl rfl) rfl rfl hl.1 rfl (lv_room (Nat.le_of_ble_eq_true rfl)) dX3_raise_46 ⟨Nat.le_of_ble_eq_true rfl, Nat.le_of_ble_eq_true rfl⟩) hS hP hD hA [4, 5, 6, 7, 8, 9, 1, 2, 3] [0] rfl rfl rfl (by decide) (fun x_46 u_46 H locs hw_46 hP hD hS => ?_)
        obtain ⟨mm2_46, sz2_46, f2_46, sy2_46, g2_46, sf2_46, fm2_46⟩ := u_46
        have hP : va_P D vwCl [(r0, .inr (3, [.ref e0, .ref z0, .ref o0, .ref t0, .int qn])), (z0, .inr (1, [.ref e0, .int zn, .ref zw, .ref zv, .ref zs, .int x0, .int mm2_46, .int zk])), (zw, .inr (2, [.ref zwa, .int sz2_46])), (zwa, .inl (cI, 40, .inl f2_46)), (zv, .inr (2, [.ref zva, .int sy2_46])), (zva, .inl (cI, 40, .inl g2_46)), (zs, .inl (cI, 11, .inl sf2_46)), (e0, .inr (0, [.ref eh, .ref eo, .ref ev, .ref er, .int el])), (eh, .inl (cI, 40, .inl fh)), (ev, .inl (cI, 40, .inl fm2_46))] H := hP
        have hD : va_D A [(r0, .inr (3, [.ref e0, .ref z0, .ref o0, .ref t0, .int qn])), (z0, .inr (1, [.ref e0, .int zn, .ref zw, .ref zv, .ref zs, .int x0, .int mm2_46, .int zk])), (zw, .inr (2, [.ref zwa, .int sz2_46])), (zwa, .inl (cI, 40, .inl f2_46)), (zv, .inr (2, [.ref zva, .int sy2_46])), (zva, .inl (cI, 40, .inl g2_46)), (zs, .inl (cI, 11, .inl sf2_46)), (e0, .inr (0, [.ref eh, .ref eo, .ref ev, .ref er, .int el])), (eh, .inl (cI, 40, .inl fh)), (ev, .inl (cI, 40, .inl fm2_46))] := hD
        have hw_46 : (x_46 = iI (↑L.length)) ∧ (heaIs x0 sz2_46 f2_46 sf2_46 x.toNat n Hh (insA (ka x.toNat Hh) [] L)) ∧ (mm2_46 = zm + iI (↑L.length)) ∧ (fm2_46 = mvA 1 fm L) := hw_46
        obtain ⟨v_46, h_46, m_46, k_46⟩ := hw_46
        have hP9 := va_P_subm (ws' := [(r0, .inr (3, [.ref e0, .ref z0, .ref o0, .ref t0, .int qn])), (e0, .inr (0, [.ref eh, .ref eo, .ref ev, .ref er, .int el])), (eh, .inl (cI, 40, .inl fh)), (ev, .inl (cI, 40, .inl fm2_46)), (z0, .inr (1, [.ref e0, .int zn, .ref zw, .ref zv, .ref zs, .int x0, .int mm2_46, .int zk])), (zw, .inr (2, [.ref zwa, .int sz2_46])), (zwa, .inl (cI, 40, .inl f2_46)), (zv, .inr (2, [.ref zva, .int sy2_46])), (zva, .inl (cI, 40, .inl g2_46)), (zs, .inl (cI, 11, .inl sf2_46))]) hP [0, 7, 8, 9, 1, 2, 3, 4, 5, 6] rfl
        have hD9 := hD.sub (ws' := [(r0, .inr (3, [.ref e0, .ref z0, .ref o0, .ref t0, .int qn])), (e0, .inr (0, [.ref eh, .ref eo, .ref ev, .ref er, .int el])), (eh, .inl (cI, 40, .inl fh)), (ev, .inl (cI, 40, .inl fm2_46)), (z0, .inr (1, [.ref e0, .int zn, .ref zw, .ref zv, .ref zs, .int x0, .int mm2_46, .int zk])), (zw, .inr (2, [.ref zwa, .int sz2_46])), (zwa, .inl (cI, 40, .inl f2_46)), (zv, .inr (2, [.ref zva, .int sy2_46])), (zva, .inl (cI, 40, .inl g2_46)), (zs, .inl (cI, 11, .inl sf2_46))]) [0, 7, 8, 9, 1, 2, 3, 4, 5, 6] rfl rfl
        refine vx_ret ?_
        refine W.widen (k := 1) (n := 6) (by omega) (by omega) ?_
        exact W.iret (v := x_46) hx hb hr (fun t ht hW => ⟨⟨x_46, ⟨fm2_46, x0, mm2_46, sz2_46, f2_46, sy2_46, g2_46, sf2_46⟩, rfl, ⟨by first | exact v_40.trans (congrArg iI (if_pos c_37).symm) | exact v_46.trans (congrArg iI (if_neg c_37).symm), ⟨by omega, by omega⟩, by first | (rw [if_neg c_37]; exact h_46) | (rw [if_pos c_37, show x.toNat = lo by omega]; exact hhe), by first | (rw [if_neg c_37]; exact m_46) | (rw [if_pos c_37]; exact (iI_z _).symm), by first | (rw [if_neg c_37]; exact k_46) | (rw [if_pos c_37])⟩, ⟨by rw [ht]; exact hP9, hD9⟩⟩, hS.F ht⟩) hS.2.2 dX3_raise_49
      · refine lz_iconst hx hb dX3_raise_40 (fun x_40 v_40 => ?_)
        refine lv_goto (tgt := 49) hx hb dX3_raise_41 (by decide) ?_
        have hS := va_S.weak (A := A) hS
        have hZ := hZA
        have hP9 := va_P_subm (ws' := [(r0, .inr (3, [.ref e0, .ref z0, .ref o0, .ref t0, .int qn])), (e0, .inr (0, [.ref eh, .ref eo, .ref ev, .ref er, .int el])), (eh, .inl (cI, 40, .inl fh)), (ev, .inl (cI, 40, .inl fm)), (z0, .inr (1, [.ref e0, .int zn, .ref zw, .ref zv, .ref zs, .int zl, .int zm, .int zk])), (zw, .inr (2, [.ref zwa, .int zsz])), (zwa, .inl (cI, 40, .inl zf)), (zv, .inr (2, [.ref zva, .int zsy])), (zva, .inl (cI, 40, .inl zg)), (zs, .inl (cI, 11, .inl zsf))]) hP [0, 1, 2, 3, 4, 5, 6, 7, 8, 9] rfl
        have hD9 := hD.sub (ws' := [(r0, .inr (3, [.ref e0, .ref z0, .ref o0, .ref t0, .int qn])), (e0, .inr (0, [.ref eh, .ref eo, .ref ev, .ref er, .int el])), (eh, .inl (cI, 40, .inl fh)), (ev, .inl (cI, 40, .inl fm)), (z0, .inr (1, [.ref e0, .int zn, .ref zw, .ref zv, .ref zs, .int zl, .int zm, .int zk])), (zw, .inr (2, [.ref zwa, .int zsz])), (zwa, .inl (cI, 40, .inl zf)), (zv, .inr (2, [.ref zva, .int zsy])), (zva, .inl (cI, 40, .inl zg)), (zs, .inl (cI, 11, .inl zsf))]) [0, 1, 2, 3, 4, 5, 6, 7, 8, 9] rfl rfl
        refine vx_ret ?_
        refine W.widen (k := 1) (n := 6) (by omega) (by omega) ?_
        exact W.iret (v := x_40) hx hb hr (fun t ht hW => ⟨⟨x_40, ⟨fm, zl, zm, zsz, zf, zsy, zg, zsf⟩, rfl, ⟨by first | exact v_40.trans (congrArg iI (if_pos c_37).symm) | exact v_46.trans (congrArg iI (if_neg c_37).symm), ⟨by omega, by omega⟩, by first | (rw [if_neg c_37]; exact h_46) | (rw [if_pos c_37, show x.toNat = lo by omega]; exact hhe), by first | (rw [if_neg c_37]; exact m_46) | (rw [if_pos c_37]; exact (iI_z _).symm), by first | (rw [if_neg c_37]; exact k_46) | (rw [if_pos c_37])⟩, ⟨by rw [ht]; exact hP9, hD9⟩⟩, hS.F ht⟩) hS.2.2 dX3_raise_49
    · exact lz_throw (text := "the low can not become this") hx hb hl0 hown hts hT hZ hS (by rw [hml]; exact hl.1) (by decide +kernel) at_A (by decide +kernel) dX3_raise_22 dX3_raise_25 dX3_raise_26 dX3_raise_28 dX3_raise_31 (fun x hx9 => (hext x hx9).elim) (Nat.le_of_ble_eq_true rfl) (Nat.le_of_ble_eq_true rfl) (Nat.le_of_ble_eq_true rfl) (Nat.le_of_ble_eq_true rfl) hlocks (fun t hv1 h1 h2 => ⟨(), trivial, ⟨rfl, by omega⟩, va_F_grow hS h1 h2⟩) (fun z hz => (hS.2.2 z hz).elim) (by omega) (by omega)
set_option maxHeartbeats 4000000 in
set_option maxRecDepth 100000 in
theorem k_X3_highest_0 (l : Launch) (D : va_G) (cI cZ cJ cK : ClassId) (hz9 : Nat) (r0 : Nat) (h0 : Int32) (e0 : Nat) (z0 : Nat) (o0 : Nat) (t0 : Nat) (qn : Int32) (eh : Nat) (eo : Nat) (ev : Nat) (er : Nat) (el : Int32) (fh : Nat → Int32) (zn : Int32) (zw : Nat) (zv : Nat) (zs : Nat) (zl : Int32) (zm : Int32) (zk : Int32) (zwa : Nat) (zsz : Int32) (zf : Nat → Int32) (zsf : Nat → Int32) (lo n : Nat) (Hh : Nat → Nat) (L : List Nat) (hem : embIs el fh n Hh) (hhe : heaIs zl zsz zf zsf lo n Hh L) (hhv : h0 = iI (0)) (hok : heaOk lo Hh L) : Met l yX3_highest (ws_ yX3_highest cX3_highest 2 (Option.some .int)) ({ frames := 3, cells := 0, slots := 0, locals := 65 }) (va_Pc [.ref r0, .int h0] (wPre D cI cZ cJ cK hz9 [(r0, .inr (3, [.ref e0, .ref z0, .ref o0, .ref t0, .int qn])), (e0, .inr (0, [.ref eh, .ref eo, .ref ev, .ref er, .int el])), (eh, .inl (cI, 40, .inl fh)), (z0, .inr (1, [.ref e0, .int zn, .ref zw, .ref zv, .ref zs, .int zl, .int zm, .int zk])), (zw, .inr (2, [.ref zwa, .int zsz])), (zwa, .inl (cI, 40, .inl zf)), (zs, .inl (cI, 11, .inl zsf))])) (va_Qi (fun r (_ : Unit) => (r = iI (↑(minL Hh L)))) (fun _ _ => True) (fun _ => False)) 0 0 (fun _ => False) := by
  refine Met.ofW (cc := cX3_highest) (maxL := 2) (ret := (Option.some .int)) (by decide) rfl ?_
  intro p e s m args below meth c s₁ hBd hml hv
  obtain ⟨rfl, hsz, hP, hD, hK, hT, hZ⟩ := hv
  have hx := hBd.exec
  have hb := hBd.bytes
  have hr := hBd.returns
  have hts : ∀ w ∈ lw_G, w.before _ s = true := fun w h => atoms_spec (ws := (ws_ yX3_highest cX3_highest 2 (Option.some .int))) hBd.pre w (List.mem_cons_of_mem _ h)
  have hown : s.vm.findClass RX3 = some m.cls := findClass_of_methodNamed hBd.named
  have hlocks := hBd.notSynchronized
  subst hsz
  have hS : va_S (fun _ => False) s.heap s.heap [] := va_S.rf
  have hl := lv_entry ([.ref r0, .int h0]) (n := 2) (Nat.le_of_ble_eq_true rfl)
  rw [lg_entry_eq]
  generalize (lg_sl ([.ref r0, .int h0]) ++ List.replicate (2 - (lg_sl ([.ref r0, .int h0])).length) Slot.unset).toArray = ls at hl ⊢
  have hl : lv_has ls 2 [(0, .ref r0), (1, .int h0)] := hl
  have hP : va_P D vwCl [(r0, .inr (3, [.ref e0, .ref z0, .ref o0, .ref t0, .int qn])), (e0, .inr (0, [.ref eh, .ref eo, .ref ev, .ref er, .int el])), (eh, .inl (cI, 40, .inl fh)), (z0, .inr (1, [.ref e0, .int zn, .ref zw, .ref zv, .ref zs, .int zl, .int zm, .int zk])), (zw, .inr (2, [.ref zwa, .int zsz])), (zwa, .inl (cI, 40, .inl zf)), (zs, .inl (cI, 11, .inl zsf))] s.heap := hP
  refine lv_aload_n hx hb dX3_highest_0 rfl (lv_at hl 0 rfl) ?_
  refine lv_iload_n hx hb dX3_highest_1 rfl (lv_at hl 1 rfl) ?_
  refine cr_r (va_runV (As := [.int h0]) (rest := []) ⟨hx, hb, hml, hown, hts⟩ (k_X3_hearthOf_0 l D cI cZ cJ cK _ r0 h0 e0 z0 o0 t0 qn (hhv.trans (congrArg iI (by omega)))) (cwV 1 hts (gV qw119 qw121 qw0 qw10 qw122) rfl rfl rfl (by decide +kernel) ⟨Nat.le_of_ble_eq_true rfl, Nat.le_of_ble_eq_true rfl⟩) (pv (ci := 3) (r := (RX3, TX3, 5)) (q0 := 0) hP hD hK hT hZ hS [0] rfl rfl rfl rfl) rfl rfl hl.1 rfl (lv_room (Nat.le_of_ble_eq_true rfl)) dX3_highest_2 ⟨Nat.le_of_ble_eq_true rfl, Nat.le_of_ble_eq_true rfl⟩) hS hP (fun x_2 H locs hw_2 hP hS => ?_)
  have hw_2 : (x_2 = z0) := hw_2
  have v_2 := hw_2
  have v_2 := v_2.symm
  subst v_2
  refine cr_i (va_runV (As := []) (rest := []) ⟨hx, hb, hml, hown, hts⟩ (k_X1_leastHeat_k l D cI cZ cJ cK _ z0 e0 zn zw zv zs zl zm zk zwa zsz zf zsf eh eo ev er el fh lo n Hh L (hem) (hhe) (hok)) (cwV 0 hts (gV qw437 qw224 qw225 qw12 qw226) rfl rfl rfl (by decide +kernel) ⟨Nat.le_of_ble_eq_true rfl, Nat.le_of_ble_eq_true rfl⟩) (pv (ci := 1) (r := (RX1, TX1, 8)) (q0 := 3) hP hD hK hT hZ hS [3, 4, 5, 6, 1, 2] rfl rfl rfl rfl) rfl rfl hl.1 rfl (lv_room (Nat.le_of_ble_eq_true rfl)) dX3_highest_5 ⟨Nat.le_of_ble_eq_true rfl, Nat.le_of_ble_eq_true rfl⟩) hS hP (fun x_5 H locs hw_5 hP hS => ?_)
  have hw_5 : (x_5 = iI (↑(minL Hh L))) := hw_5
  have v_5 := hw_5
  exact W.iret (v := x_5) hx hb hr (fun t ht hW => ⟨⟨x_5, (), rfl, v_5, trivial⟩, hS.F ht⟩) hS.2.2 dX3_highest_8
set_option maxHeartbeats 4000000 in
set_option maxRecDepth 100000 in
theorem k_X3_many_0 (l : Launch) (D : va_G) (cI cZ cJ cK : ClassId) (hz9 : Nat) (r0 : Nat) (h0 : Int32) (b0 : Int32) (e0 : Nat) (z0 : Nat) (o0 : Nat) (t0 : Nat) (qn : Int32) (zn : Int32) (zw : Nat) (zv : Nat) (zs : Nat) (zl : Int32) (zm : Int32) (zk : Int32) (zsf : Nat → Int32) (cn : Nat → Nat) (b : Int) (hhv : h0 = iI (0)) (hsz : szC zsf cn) (hbv : b0 = iI b) (hbr : -2147483648 ≤ b ∧ b < 2147483648) (hbo : 0 ≤ b ∧ b < 11) : Met l yX3_many (ws_ yX3_many cX3_many 4 (Option.some .int)) ({ frames := 1, cells := 0, slots := 0, locals := 21 }) (va_Pc [.ref r0, .int h0, .int b0] (wPre D cI cZ cJ cK hz9 [(r0, .inr (3, [.ref e0, .ref z0, .ref o0, .ref t0, .int qn])), (z0, .inr (1, [.ref e0, .int zn, .ref zw, .ref zv, .ref zs, .int zl, .int zm, .int zk])), (zs, .inl (cI, 11, .inl zsf))])) (va_Qi (fun r (_ : Unit) => (r = iI (↑(cn b.toNat)))) (fun _ _ => True) (fun _ => False)) 0 0 (fun _ => False) := by
  refine Met.ofW (cc := cX3_many) (maxL := 4) (ret := (Option.some .int)) (by decide) rfl ?_
  intro p e s m args below meth c s₁ hBd hml hv
  obtain ⟨rfl, hsz, hP, hD, hK, hT, hZ⟩ := hv
  have hx := hBd.exec
  have hb := hBd.bytes
  have hr := hBd.returns
  have hts : ∀ w ∈ lw_G, w.before _ s = true := fun w h => atoms_spec (ws := (ws_ yX3_many cX3_many 4 (Option.some .int))) hBd.pre w (List.mem_cons_of_mem _ h)
  have hown : s.vm.findClass RX3 = some m.cls := findClass_of_methodNamed hBd.named
  have hlocks := hBd.notSynchronized
  subst hsz
  have hS : va_S (fun _ => False) s.heap s.heap [] := va_S.rf
  have hl := lv_entry ([.ref r0, .int h0, .int b0]) (n := 4) (Nat.le_of_ble_eq_true rfl)
  rw [lg_entry_eq]
  generalize (lg_sl ([.ref r0, .int h0, .int b0]) ++ List.replicate (4 - (lg_sl ([.ref r0, .int h0, .int b0])).length) Slot.unset).toArray = ls at hl ⊢
  have hl : lv_has ls 4 [(0, .ref r0), (1, .int h0), (2, .int b0)] := hl
  have hP : va_P D vwCl [(r0, .inr (3, [.ref e0, .ref z0, .ref o0, .ref t0, .int qn])), (z0, .inr (1, [.ref e0, .int zn, .ref zw, .ref zv, .ref zs, .int zl, .int zm, .int zk])), (zs, .inl (cI, 11, .inl zsf))] s.heap := hP
  have hb2 : b0 = iI ↑b.toNat := hbv.trans (congrArg iI (by omega))
  refine lv_aload_n hx hb dX3_many_0 rfl (lv_at hl 0 rfl) ?_
  refine lv_iload_n hx hb dX3_many_1 rfl (lv_at hl 1 rfl) ?_
  refine cr_r (va_runV (As := [.int h0]) (rest := []) ⟨hx, hb, hml, hown, hts⟩ (k_X3_hearthOf_0 l D cI cZ cJ cK _ r0 h0 e0 z0 o0 t0 qn (hhv.trans (congrArg iI (by omega)))) (cwV 1 hts (gV qw119 qw121 qw0 qw10 qw122) rfl rfl rfl (by decide +kernel) ⟨Nat.le_of_ble_eq_true rfl, Nat.le_of_ble_eq_true rfl⟩) (pv (ci := 3) (r := (RX3, TX3, 5)) (q0 := 0) hP hD hK hT hZ hS [0] rfl rfl rfl rfl) rfl rfl hl.1 rfl (lv_room (Nat.le_of_ble_eq_true rfl)) dX3_many_2 ⟨Nat.le_of_ble_eq_true rfl, Nat.le_of_ble_eq_true rfl⟩) hS hP (fun x_2 H locs hw_2 hP hS => ?_)
  have hw_2 : (x_2 = z0) := hw_2
  have v_2 := hw_2
  have v_2 := v_2.symm
  subst v_2
  refine lv_astore_n (lv' := [(3, .ref z0), (0, .ref r0), (1, .int h0), (2, .int b0)]) hx hb dX3_many_5 rfl hl (by decide) rfl (fun ls hl => ?_)
  refine lv_iload_n hx hb dX3_many_6 rfl (lv_at hl 3 rfl) ?_
  refine cr_v (va_runS (As := [.int b0]) (rest := []) ⟨hx, hb, hml, hown, hts⟩ (k_X3_refuseBucket l D cI cZ cJ cK _ b0 b.toNat (hb2) (by omega)) (va_cwS 1 hts (gS qw305 qw306 qw10 qw307) rfl rfl rfl (by decide +kernel) ⟨Nat.le_of_ble_eq_true rfl, Nat.le_of_ble_eq_true rfl⟩) (ps hP hD hK hT hZ hS [] rfl rfl) rfl rfl hl.1 rfl (lv_room (Nat.le_of_ble_eq_true rfl)) dX3_many_7 ⟨Nat.le_of_ble_eq_true rfl, Nat.le_of_ble_eq_true rfl⟩) hS hP (fun H locs hw_7 hP hS => ?_)
  refine lv_aload_n hx hb dX3_many_10 rfl (lv_at hl 0 rfl) ?_
  refine lv_iload_n hx hb dX3_many_11 rfl (lv_at hl 3 rfl) ?_
  refine cr_i (va_runV (As := [.int b0]) (rest := []) ⟨hx, hb, hml, hown, hts⟩ (k_X1_sizeOf l D cI cZ cJ cK _ z0 b0 e0 zn zw zv zs zl zm zk zsf cn (↑b.toNat) (hsz) (hb2) (by omega)) (cwV 1 hts (gV qw309 qw228 qw229 qw12 qw230) rfl rfl rfl (by decide +kernel) ⟨Nat.le_of_ble_eq_true rfl, Nat.le_of_ble_eq_true rfl⟩) (pv (ci := 1) (r := (RX1, TX1, 8)) (q0 := 1) hP hD hK hT hZ hS [1, 2] rfl rfl rfl rfl) rfl rfl hl.1 rfl (lv_room (Nat.le_of_ble_eq_true rfl)) dX3_many_12 ⟨Nat.le_of_ble_eq_true rfl, Nat.le_of_ble_eq_true rfl⟩) hS hP (fun x_12 H locs hw_12 hP hS => ?_)
  have hw_12 : (x_12 = iI (szA cn (↑b.toNat))) := hw_12
  have v_12 := hw_12
  exact W.iret (v := x_12) hx hb hr (fun t ht hW => ⟨⟨x_12, (), rfl, (v_12.trans (congrArg iI (szA_nat cn _))), trivial⟩, hS.F ht⟩) hS.2.2 dX3_many_15
set_option maxHeartbeats 4000000 in
set_option maxRecDepth 100000 in
theorem k_X3_many_b0 (l : Launch) (hl0 : l.stackTraces = false) (D : va_G) (cI cZ cJ cK : ClassId) (hz9 : Nat) (r0 : Nat) (h0 : Int32) (b0 : Int32) (e0 : Nat) (z0 : Nat) (o0 : Nat) (t0 : Nat) (qn : Int32) (b : Int) (hhv : h0 = iI (0)) (hbv : b0 = iI b) (hbr : -2147483648 ≤ b ∧ b < 2147483648) (hbo : ¬ (0 ≤ b ∧ b < 11)) : vx_Met l yX3_many (ws_ yX3_many cX3_many 4 (Option.some .int)) ({ frames := 7, cells := 1, slots := 6, locals := 102 }) (va_Pc [.ref r0, .int h0, .int b0] (wPre D cI cZ cJ cK hz9 [(r0, .inr (3, [.ref e0, .ref z0, .ref o0, .ref t0, .int qn]))])) (va_Qi (fun r (_ : Unit) => (False)) (fun _ _ => True) (fun _ => False)) (vx_X (fun (_ : Unit) => True) (fun E _ _ => E = xI) (fun _ => False)) 1 6 (fun _ => False) := by
  refine vx_ofW (cc := cX3_many) (maxL := 4) (ret := (Option.some .int)) (by decide) rfl ?_
  intro p e s m args below meth c s₁ hBd hml hext hv
  obtain ⟨rfl, hsz, hP, hD, hK, hT, hZ⟩ := hv
  have hx := hBd.exec
  have hb := hBd.bytes
  have hr := hBd.returns
  have hts : ∀ w ∈ lw_G, w.before _ s = true := fun w h => atoms_spec (ws := (ws_ yX3_many cX3_many 4 (Option.some .int))) hBd.pre w (List.mem_cons_of_mem _ h)
  have hown : s.vm.findClass RX3 = some m.cls := findClass_of_methodNamed hBd.named
  have hlocks := hBd.notSynchronized
  subst hsz
  have hS : va_S (fun _ => False) s.heap s.heap [] := va_S.rf
  have hl := lv_entry ([.ref r0, .int h0, .int b0]) (n := 4) (Nat.le_of_ble_eq_true rfl)
  rw [lg_entry_eq]
  generalize (lg_sl ([.ref r0, .int h0, .int b0]) ++ List.replicate (4 - (lg_sl ([.ref r0, .int h0, .int b0])).length) Slot.unset).toArray = ls at hl ⊢
  have hl : lv_has ls 4 [(0, .ref r0), (1, .int h0), (2, .int b0)] := hl
  have hP : va_P D vwCl [(r0, .inr (3, [.ref e0, .ref z0, .ref o0, .ref t0, .int qn]))] s.heap := hP
  refine lv_aload_n hx hb dX3_many_0 rfl (lv_at hl 0 rfl) ?_
  refine lv_iload_n hx hb dX3_many_1 rfl (lv_at hl 1 rfl) ?_
  refine cr_r (va_runV (As := [.int h0]) (rest := []) ⟨hx, hb, hml, hown, hts⟩ (k_X3_hearthOf_0 l D cI cZ cJ cK _ r0 h0 e0 z0 o0 t0 qn (hhv.trans (congrArg iI (by omega)))) (cwV 1 hts (gV qw119 qw121 qw0 qw10 qw122) rfl rfl rfl (by decide +kernel) ⟨Nat.le_of_ble_eq_true rfl, Nat.le_of_ble_eq_true rfl⟩) (pv (ci := 3) (r := (RX3, TX3, 5)) (q0 := 0) hP hD hK hT hZ hS [0] rfl rfl rfl rfl) rfl rfl hl.1 rfl (lv_room (Nat.le_of_ble_eq_true rfl)) dX3_many_2 ⟨Nat.le_of_ble_eq_true rfl, Nat.le_of_ble_eq_true rfl⟩) hS hP (fun x_2 H locs hw_2 hP hS => ?_)
  have hw_2 : (x_2 = z0) := hw_2
  have v_2 := hw_2
  have v_2 := v_2.symm
  subst v_2
  refine lv_astore_n (lv' := [(3, .ref z0), (0, .ref r0), (1, .int h0), (2, .int b0)]) hx hb dX3_many_5 rfl hl (by decide) rfl (fun ls hl => ?_)
  refine lv_iload_n hx hb dX3_many_6 rfl (lv_at hl 3 rfl) ?_
  refine cx_v (vx_runS (As := [.int b0]) (rest := []) ⟨hx, hb, hml, hown, hts⟩ (k_X3_refuseBucket_x l hl0 D cI cZ cJ cK _ b0 b (hbv) (hbr) (hbo)) (va_cwS 1 hts (gS qw305 qw306 qw10 qw307) rfl rfl rfl (by decide +kernel) ⟨Nat.le_of_ble_eq_true rfl, Nat.le_of_ble_eq_true rfl⟩) (ps hP hD hK hT hZ hS [] rfl rfl) rfl rfl hl.1 rfl (lv_room (Nat.le_of_ble_eq_true rfl)) dX3_many_7 ⟨Nat.le_of_ble_eq_true rfl, Nat.le_of_ble_eq_true rfl⟩) hS hP (fun E9 ce9 q9 H locs hE9 hP hS hq9 hv9 hc9 => ?_) (fun H locs hw_7 hP hS => ?_)
  · exact vx_out (fun x hx9 => (hext x hx9).elim) hlocks hq9 hv9 hc9 (fun t ht hW => ⟨(), trivial, hE9, hS.F ht⟩) (fun z hz => (hS.2.2 z hz).elim) (by omega) (by omega)
  refine id ?_
  exact hw_7.elim
set_option maxHeartbeats 4000000 in
set_option maxRecDepth 100000 in
theorem k_X3_lies_0 (l : Launch) (hl0 : l.stackTraces = false) (D : va_G) (cI cZ cJ cK : ClassId) (hz9 : Nat) (r0 : Nat) (h0 : Int32) (b0 : Int32) (k0 : Int32) (e0 : Nat) (z0 : Nat) (o0 : Nat) (t0 : Nat) (qn : Int32) (zn : Int32) (zw : Nat) (zv : Nat) (zs : Nat) (zl : Int32) (zm : Int32) (zk : Int32) (zwa : Nat) (zsz : Int32) (zf : Nat → Int32) (zsf : Nat → Int32) (cn : Nat → Nat) (L : List Nat) (b k : Int) (hhv : h0 = iI (0)) (hrow : rowIs zsz zf L) (hsz : szC zsf cn) (hps : psum cn 11 ≤ L.length) (hbv : b0 = iI b) (hbr : -2147483648 ≤ b ∧ b < 2147483648) (hkv : k0 = iI k) (hkr : -2147483648 ≤ k ∧ k < 2147483648) (hbo : 0 ≤ b ∧ b < 11) : vx_Met l yX3_lies (ws_ yX3_lies cX3_lies 5 (Option.some .int)) ({ frames := 6, cells := 1, slots := 6, locals := 82 }) (va_Pc [.ref r0, .int h0, .int b0, .int k0] (wPre D cI cZ cJ cK hz9 [(r0, .inr (3, [.ref e0, .ref z0, .ref o0, .ref t0, .int qn])), (z0, .inr (1, [.ref e0, .int zn, .ref zw, .ref zv, .ref zs, .int zl, .int zm, .int zk])), (zw, .inr (2, [.ref zwa, .int zsz])), (zwa, .inl (cI, 40, .inl zf)), (zs, .inl (cI, 11, .inl zsf))])) (va_Qi (fun r (_ : Unit) => (r = iI (↑(L.getD (psum cn b.toNat + k.toNat) 0))) ∧ (0 ≤ k ∧ k < ↑(cn b.toNat))) (fun _ _ => True) (fun _ => False)) (vx_X (fun (_ : Unit) => True) (fun E _ _ => E = xI ∧ ¬ (0 ≤ k ∧ k < ↑(cn b.toNat))) (fun _ => False)) 1 6 (fun _ => False) := by
  refine vx_ofW (cc := cX3_lies) (maxL := 5) (ret := (Option.some .int)) (by decide) rfl ?_
  intro p e s m args below meth c s₁ hBd hml hext hv
  obtain ⟨rfl, hsz, hP, hD, hK, hT, hZ⟩ := hv
  have hx := hBd.exec
  have hb := hBd.bytes
  have hr := hBd.returns
  have hts : ∀ w ∈ lw_G, w.before _ s = true := fun w h => atoms_spec (ws := (ws_ yX3_lies cX3_lies 5 (Option.some .int))) hBd.pre w (List.mem_cons_of_mem _ h)
  have hown : s.vm.findClass RX3 = some m.cls := findClass_of_methodNamed hBd.named
  have hlocks := hBd.notSynchronized
  subst hsz
  have hS : va_S (fun _ => False) s.heap s.heap [] := va_S.rf
  have hl := lv_entry ([.ref r0, .int h0, .int b0, .int k0]) (n := 5) (Nat.le_of_ble_eq_true rfl)
  rw [lg_entry_eq]
  generalize (lg_sl ([.ref r0, .int h0, .int b0, .int k0]) ++ List.replicate (5 - (lg_sl ([.ref r0, .int h0, .int b0, .int k0])).length) Slot.unset).toArray = ls at hl ⊢
  have hl : lv_has ls 5 [(0, .ref r0), (1, .int h0), (2, .int b0), (3, .int k0)] := hl
  have hP : va_P D vwCl [(r0, .inr (3, [.ref e0, .ref z0, .ref o0, .ref t0, .int qn])), (z0, .inr (1, [.ref e0, .int zn, .ref zw, .ref zv, .ref zs, .int zl, .int zm, .int zk])), (zw, .inr (2, [.ref zwa, .int zsz])), (zwa, .inl (cI, 40, .inl zf)), (zs, .inl (cI, 11, .inl zsf))] s.heap := hP
  have hb2 : b0 = iI ↑b.toNat := hbv.trans (congrArg iI (by omega))
  have hpc := psum_at cn (a := b.toNat) (b := 11) (by omega)
  have hp11 := hsz.2
  refine lv_aload_n hx hb dX3_lies_0 rfl (lv_at hl 0 rfl) ?_
  refine lv_iload_n hx hb dX3_lies_1 rfl (lv_at hl 1 rfl) ?_
  refine cr_r (va_runV (As := [.int h0]) (rest := []) ⟨hx, hb, hml, hown, hts⟩ (k_X3_hearthOf_0 l D cI cZ cJ cK _ r0 h0 e0 z0 o0 t0 qn (hhv.trans (congrArg iI (by omega)))) (cwV 1 hts (gV qw119 qw121 qw0 qw10 qw122) rfl rfl rfl (by decide +kernel) ⟨Nat.le_of_ble_eq_true rfl, Nat.le_of_ble_eq_true rfl⟩) (pv (ci := 3) (r := (RX3, TX3, 5)) (q0 := 0) hP hD hK hT hZ hS [0] rfl rfl rfl rfl) rfl rfl hl.1 rfl (lv_room (Nat.le_of_ble_eq_true rfl)) dX3_lies_2 ⟨Nat.le_of_ble_eq_true rfl, Nat.le_of_ble_eq_true rfl⟩) hS hP (fun x_2 H locs hw_2 hP hS => ?_)
  have hw_2 : (x_2 = z0) := hw_2
  have v_2 := hw_2
  have v_2 := v_2.symm
  subst v_2
  refine lv_astore (lv' := [(4, .ref z0), (0, .ref r0), (1, .int h0), (2, .int b0), (3, .int k0)]) hx hb dX3_lies_5 hl (by decide) rfl (fun ls hl => ?_)
  refine lv_iload_n hx hb dX3_lies_7 rfl (lv_at hl 3 rfl) ?_
  refine cr_v (va_runS (As := [.int b0]) (rest := []) ⟨hx, hb, hml, hown, hts⟩ (k_X3_refuseBucket l D cI cZ cJ cK _ b0 b.toNat (hb2) (by omega)) (va_cwS 1 hts (gS qw305 qw306 qw10 qw307) rfl rfl rfl (by decide +kernel) ⟨Nat.le_of_ble_eq_true rfl, Nat.le_of_ble_eq_true rfl⟩) (ps hP hD hK hT hZ hS [] rfl rfl) rfl rfl hl.1 rfl (lv_room (Nat.le_of_ble_eq_true rfl)) dX3_lies_8 ⟨Nat.le_of_ble_eq_true rfl, Nat.le_of_ble_eq_true rfl⟩) hS hP (fun H locs hw_8 hP hS => ?_)
  refine lv_iload_n hx hb dX3_lies_11 rfl (lv_at hl 4 rfl) ?_
  refine lz_if_lt (tgt := 25) hx hb hkv (by omega) dX3_lies_12 (by decide) (fun c_12 => ?_) (fun c_12 => ?_)
  · exact lz_throw (text := "the bucket has no such place") hx hb hl0 hown hts hT hZ hS (by rw [hml]; exact hl.1) (by decide +kernel) at_I (by decide +kernel) dX3_lies_25 dX3_lies_28 dX3_lies_29 dX3_lies_31 dX3_lies_34 (fun x hx9 => (hext x hx9).elim) (Nat.le_of_ble_eq_true rfl) (Nat.le_of_ble_eq_true rfl) (Nat.le_of_ble_eq_true rfl) (Nat.le_of_ble_eq_true rfl) hlocks (fun t hv1 h1 h2 => ⟨(), trivial, ⟨rfl, by omega⟩, va_F_grow hS h1 h2⟩) (fun z hz => (hS.2.2 z hz).elim) (by omega) (by omega)
  · refine lv_iload_n hx hb dX3_lies_15 rfl (lv_at hl 4 rfl) ?_
    refine lv_aload hx hb dX3_lies_16 (lv_at hl 0 rfl) ?_
    refine lv_iload_n hx hb dX3_lies_18 rfl (lv_at hl 3 rfl) ?_
    refine cr_i (va_runV (As := [.int b0]) (rest := [.int k0]) ⟨hx, hb, hml, hown, hts⟩ (k_X1_sizeOf l D cI cZ cJ cK _ z0 b0 e0 zn zw zv zs zl zm zk zsf cn (↑b.toNat) (hsz) (hb2) (by omega)) (cwV 1 hts (gV qw309 qw228 qw229 qw12 qw230) rfl rfl rfl (by decide +kernel) ⟨Nat.le_of_ble_eq_true rfl, Nat.le_of_ble_eq_true rfl⟩) (pv (ci := 1) (r := (RX1, TX1, 8)) (q0 := 1) hP hD hK hT hZ hS [1, 4] rfl rfl rfl rfl) rfl rfl hl.1 rfl (lv_room (Nat.le_of_ble_eq_true rfl)) dX3_lies_19 ⟨Nat.le_of_ble_eq_true rfl, Nat.le_of_ble_eq_true rfl⟩) hS hP (fun x_19 H locs hw_19 hP hS => ?_)
    have hw_19 : (x_19 = iI (szA cn (↑b.toNat))) := hw_19
    have v_19 := hw_19
    refine lz_icmp_lt (tgt := 35) hx hb hkv (v_19.trans (congrArg iI (szA_nat cn _))) ⟨by omega, by omega⟩ dX3_lies_22 (by decide) (fun c_22 => ?_) (fun c_22 => ?_)
    · refine lv_aload hx hb dX3_lies_35 (lv_at hl 0 rfl) ?_
      refine lv_iload_n hx hb dX3_lies_37 rfl (lv_at hl 3 rfl) ?_
      refine lv_iload_n hx hb dX3_lies_38 rfl (lv_at hl 4 rfl) ?_
      refine cr_i (va_runV (As := [.int b0, .int k0]) (rest := []) ⟨hx, hb, hml, hown, hts⟩ (k_X1_emberAt l D cI cZ cJ cK _ z0 b0 k0 e0 zn zw zv zs zl zm zk zwa zsz zf zsf cn L b.toNat k.toNat (hrow) (hsz) (hb2) (hkv.trans (congrArg iI (by omega))) (by omega) (by omega) (hps)) (cwV 2 hts (gV qw315 qw316 qw317 qw12 qw318) rfl rfl rfl (by decide +kernel) ⟨Nat.le_of_ble_eq_true rfl, Nat.le_of_ble_eq_true rfl⟩) (pv (ci := 1) (r := (RX1, TX1, 8)) (q0 := 1) hP hD hK hT hZ hS [1, 2, 3, 4] rfl rfl rfl rfl) rfl rfl hl.1 rfl (lv_room (Nat.le_of_ble_eq_true rfl)) dX3_lies_39 ⟨Nat.le_of_ble_eq_true rfl, Nat.le_of_ble_eq_true rfl⟩) hS hP (fun x_39 H locs hw_39 hP hS => ?_)
      have hw_39 : (x_39 = iI (↑(L.getD (psum cn b.toNat + k.toNat) 0))) := hw_39
      have v_39 := hw_39
      refine vx_ret ?_
      refine W.widen (k := 1) (n := 6) (by omega) (by omega) ?_
      exact W.iret (v := x_39) hx hb hr (fun t ht hW => ⟨⟨x_39, (), rfl, ⟨v_39, ⟨by omega, by omega⟩⟩, trivial⟩, hS.F ht⟩) hS.2.2 dX3_lies_42
    · exact lz_throw (text := "the bucket has no such place") hx hb hl0 hown hts hT hZ hS (by rw [hml]; exact hl.1) (by decide +kernel) at_I (by decide +kernel) dX3_lies_25 dX3_lies_28 dX3_lies_29 dX3_lies_31 dX3_lies_34 (fun x hx9 => (hext x hx9).elim) (Nat.le_of_ble_eq_true rfl) (Nat.le_of_ble_eq_true rfl) (Nat.le_of_ble_eq_true rfl) (Nat.le_of_ble_eq_true rfl) hlocks (fun t hv1 h1 h2 => ⟨(), trivial, ⟨rfl, by omega⟩, va_F_grow hS h1 h2⟩) (fun z hz => (hS.2.2 z hz).elim) (by omega) (by omega)
set_option maxHeartbeats 4000000 in
set_option maxRecDepth 100000 in
theorem k_X3_lies_b0 (l : Launch) (hl0 : l.stackTraces = false) (D : va_G) (cI cZ cJ cK : ClassId) (hz9 : Nat) (r0 : Nat) (h0 : Int32) (b0 : Int32) (k0 : Int32) (e0 : Nat) (z0 : Nat) (o0 : Nat) (t0 : Nat) (qn : Int32) (b : Int) (hhv : h0 = iI (0)) (hbv : b0 = iI b) (hbr : -2147483648 ≤ b ∧ b < 2147483648) (hbo : ¬ (0 ≤ b ∧ b < 11)) : vx_Met l yX3_lies (ws_ yX3_lies cX3_lies 5 (Option.some .int)) ({ frames := 7, cells := 1, slots := 6, locals := 102 }) (va_Pc [.ref r0, .int h0, .int b0, .int k0] (wPre D cI cZ cJ cK hz9 [(r0, .inr (3, [.ref e0, .ref z0, .ref o0, .ref t0, .int qn]))])) (va_Qi (fun r (_ : Unit) => (False)) (fun _ _ => True) (fun _ => False)) (vx_X (fun (_ : Unit) => True) (fun E _ _ => E = xI) (fun _ => False)) 1 6 (fun _ => False) := by
  refine vx_ofW (cc := cX3_lies) (maxL := 5) (ret := (Option.some .int)) (by decide) rfl ?_
  intro p e s m args below meth c s₁ hBd hml hext hv
  obtain ⟨rfl, hsz, hP, hD, hK, hT, hZ⟩ := hv
  have hx := hBd.exec
  have hb := hBd.bytes
  have hr := hBd.returns
  have hts : ∀ w ∈ lw_G, w.before _ s = true := fun w h => atoms_spec (ws := (ws_ yX3_lies cX3_lies 5 (Option.some .int))) hBd.pre w (List.mem_cons_of_mem _ h)
  have hown : s.vm.findClass RX3 = some m.cls := findClass_of_methodNamed hBd.named
  have hlocks := hBd.notSynchronized
  subst hsz
  have hS : va_S (fun _ => False) s.heap s.heap [] := va_S.rf
  have hl := lv_entry ([.ref r0, .int h0, .int b0, .int k0]) (n := 5) (Nat.le_of_ble_eq_true rfl)
  rw [lg_entry_eq]
  generalize (lg_sl ([.ref r0, .int h0, .int b0, .int k0]) ++ List.replicate (5 - (lg_sl ([.ref r0, .int h0, .int b0, .int k0])).length) Slot.unset).toArray = ls at hl ⊢
  have hl : lv_has ls 5 [(0, .ref r0), (1, .int h0), (2, .int b0), (3, .int k0)] := hl
  have hP : va_P D vwCl [(r0, .inr (3, [.ref e0, .ref z0, .ref o0, .ref t0, .int qn]))] s.heap := hP
  refine lv_aload_n hx hb dX3_lies_0 rfl (lv_at hl 0 rfl) ?_
  refine lv_iload_n hx hb dX3_lies_1 rfl (lv_at hl 1 rfl) ?_
  refine cr_r (va_runV (As := [.int h0]) (rest := []) ⟨hx, hb, hml, hown, hts⟩ (k_X3_hearthOf_0 l D cI cZ cJ cK _ r0 h0 e0 z0 o0 t0 qn (hhv.trans (congrArg iI (by omega)))) (cwV 1 hts (gV qw119 qw121 qw0 qw10 qw122) rfl rfl rfl (by decide +kernel) ⟨Nat.le_of_ble_eq_true rfl, Nat.le_of_ble_eq_true rfl⟩) (pv (ci := 3) (r := (RX3, TX3, 5)) (q0 := 0) hP hD hK hT hZ hS [0] rfl rfl rfl rfl) rfl rfl hl.1 rfl (lv_room (Nat.le_of_ble_eq_true rfl)) dX3_lies_2 ⟨Nat.le_of_ble_eq_true rfl, Nat.le_of_ble_eq_true rfl⟩) hS hP (fun x_2 H locs hw_2 hP hS => ?_)
  have hw_2 : (x_2 = z0) := hw_2
  have v_2 := hw_2
  have v_2 := v_2.symm
  subst v_2
  refine lv_astore (lv' := [(4, .ref z0), (0, .ref r0), (1, .int h0), (2, .int b0), (3, .int k0)]) hx hb dX3_lies_5 hl (by decide) rfl (fun ls hl => ?_)
  refine lv_iload_n hx hb dX3_lies_7 rfl (lv_at hl 3 rfl) ?_
  refine cx_v (vx_runS (As := [.int b0]) (rest := []) ⟨hx, hb, hml, hown, hts⟩ (k_X3_refuseBucket_x l hl0 D cI cZ cJ cK _ b0 b (hbv) (hbr) (hbo)) (va_cwS 1 hts (gS qw305 qw306 qw10 qw307) rfl rfl rfl (by decide +kernel) ⟨Nat.le_of_ble_eq_true rfl, Nat.le_of_ble_eq_true rfl⟩) (ps hP hD hK hT hZ hS [] rfl rfl) rfl rfl hl.1 rfl (lv_room (Nat.le_of_ble_eq_true rfl)) dX3_lies_8 ⟨Nat.le_of_ble_eq_true rfl, Nat.le_of_ble_eq_true rfl⟩) hS hP (fun E9 ce9 q9 H locs hE9 hP hS hq9 hv9 hc9 => ?_) (fun H locs hw_8 hP hS => ?_)
  · exact vx_out (fun x hx9 => (hext x hx9).elim) hlocks hq9 hv9 hc9 (fun t ht hW => ⟨(), trivial, hE9, hS.F ht⟩) (fun z hz => (hS.2.2 z hz).elim) (by omega) (by omega)
  refine id ?_
  exact hw_8.elim
set_option maxHeartbeats 4000000 in
set_option maxRecDepth 100000 in
theorem k_X3_bucketOf_0 (l : Launch) (hl0 : l.stackTraces = false) (D : va_G) (cI cZ cJ cK : ClassId) (hz9 : Nat) (r0 : Nat) (h0 : Int32) (x0 : Int32) (e0 : Nat) (z0 : Nat) (o0 : Nat) (t0 : Nat) (qn : Int32) (zn : Int32) (zw : Nat) (zv : Nat) (zs : Nat) (zl : Int32) (zm : Int32) (zk : Int32) (lo : Nat) (x : Int) (hhv : h0 = iI (0)) (hlo : zl = iI ↑lo) (hlo4 : lo < 1024) (hxv : x0 = iI x) (hxr : -2147483648 ≤ x ∧ x < 2147483648) : vx_Met l yX3_bucketOf (ws_ yX3_bucketOf cX3_bucketOf 4 (Option.some .int)) ({ frames := 6, cells := 1, slots := 6, locals := 82 }) (va_Pc [.ref r0, .int h0, .int x0] (wPre D cI cZ cJ cK hz9 [(r0, .inr (3, [.ref e0, .ref z0, .ref o0, .ref t0, .int qn])), (z0, .inr (1, [.ref e0, .int zn, .ref zw, .ref zv, .ref zs, .int zl, .int zm, .int zk]))])) (va_Qi (fun r (_ : Unit) => (r = iI (↑(bk lo x.toNat))) ∧ ((↑lo : Int) ≤ x ∧ x ≤ 1023)) (fun _ _ => True) (fun _ => False)) (vx_X (fun (_ : Unit) => True) (fun E _ _ => E = xA ∧ ¬ ((↑lo : Int) ≤ x ∧ x ≤ 1023)) (fun _ => False)) 1 6 (fun _ => False) := by
  refine vx_ofW (cc := cX3_bucketOf) (maxL := 4) (ret := (Option.some .int)) (by decide) rfl ?_
  intro p e s m args below meth c s₁ hBd hml hext hv
  obtain ⟨rfl, hsz, hP, hD, hK, hT, hZ⟩ := hv
  have hx := hBd.exec
  have hb := hBd.bytes
  have hr := hBd.returns
  have hts : ∀ w ∈ lw_G, w.before _ s = true := fun w h => atoms_spec (ws := (ws_ yX3_bucketOf cX3_bucketOf 4 (Option.some .int))) hBd.pre w (List.mem_cons_of_mem _ h)
  have hown : s.vm.findClass RX3 = some m.cls := findClass_of_methodNamed hBd.named
  have hlocks := hBd.notSynchronized
  subst hsz
  have hS : va_S (fun _ => False) s.heap s.heap [] := va_S.rf
  have hl := lv_entry ([.ref r0, .int h0, .int x0]) (n := 4) (Nat.le_of_ble_eq_true rfl)
  rw [lg_entry_eq]
  generalize (lg_sl ([.ref r0, .int h0, .int x0]) ++ List.replicate (4 - (lg_sl ([.ref r0, .int h0, .int x0])).length) Slot.unset).toArray = ls at hl ⊢
  have hl : lv_has ls 4 [(0, .ref r0), (1, .int h0), (2, .int x0)] := hl
  have hP : va_P D vwCl [(r0, .inr (3, [.ref e0, .ref z0, .ref o0, .ref t0, .int qn])), (z0, .inr (1, [.ref e0, .int zn, .ref zw, .ref zv, .ref zs, .int zl, .int zm, .int zk]))] s.heap := hP
  refine lv_aload_n hx hb dX3_bucketOf_0 rfl (lv_at hl 0 rfl) ?_
  refine lv_iload_n hx hb dX3_bucketOf_1 rfl (lv_at hl 1 rfl) ?_
  refine cr_r (va_runV (As := [.int h0]) (rest := []) ⟨hx, hb, hml, hown, hts⟩ (k_X3_hearthOf_0 l D cI cZ cJ cK _ r0 h0 e0 z0 o0 t0 qn (hhv.trans (congrArg iI (by omega)))) (cwV 1 hts (gV qw119 qw121 qw0 qw10 qw122) rfl rfl rfl (by decide +kernel) ⟨Nat.le_of_ble_eq_true rfl, Nat.le_of_ble_eq_true rfl⟩) (pv (ci := 3) (r := (RX3, TX3, 5)) (q0 := 0) hP hD hK hT hZ hS [0] rfl rfl rfl rfl) rfl rfl hl.1 rfl (lv_room (Nat.le_of_ble_eq_true rfl)) dX3_bucketOf_2 ⟨Nat.le_of_ble_eq_true rfl, Nat.le_of_ble_eq_true rfl⟩) hS hP (fun x_2 H locs hw_2 hP hS => ?_)
  have hw_2 : (x_2 = z0) := hw_2
  have v_2 := hw_2
  have v_2 := v_2.symm
  subst v_2
  refine lv_astore_n (lv' := [(3, .ref z0), (0, .ref r0), (1, .int h0), (2, .int x0)]) hx hb dX3_bucketOf_5 rfl hl (by decide) rfl (fun ls hl => ?_)
  refine lv_aload_n hx hb dX3_bucketOf_6 rfl (lv_at hl 0 rfl) ?_
  refine lv_iload_n hx hb dX3_bucketOf_7 rfl (lv_at hl 3 rfl) ?_
  refine cr_i (va_runV (As := [.int x0]) (rest := []) ⟨hx, hb, hml, hown, hts⟩ (k_X1_takesHeat l D cI cZ cJ cK _ z0 x0 e0 zn zw zv zs zl zm zk lo x (hlo) (hlo4) (hxv) (hxr)) (cwV 1 hts (gV qw323 qw324 qw325 qw12 qw326) rfl rfl rfl (by decide +kernel) ⟨Nat.le_of_ble_eq_true rfl, Nat.le_of_ble_eq_true rfl⟩) (pv (ci := 1) (r := (RX1, TX1, 8)) (q0 := 1) hP hD hK hT hZ hS [1] rfl rfl rfl rfl) rfl rfl hl.1 rfl (lv_room (Nat.le_of_ble_eq_true rfl)) dX3_bucketOf_8 ⟨Nat.le_of_ble_eq_true rfl, Nat.le_of_ble_eq_true rfl⟩) hS hP (fun x_8 H locs hw_8 hP hS => ?_)
  have hw_8 : (x_8 = iI (if (↑lo : Int) ≤ x ∧ x ≤ 1023 then 1 else 0)) := hw_8
  have v_8 := hw_8
  refine lz_if_ne (tgt := 24) hx hb v_8 (by omega) dX3_bucketOf_11 (by decide) (fun c_11 => ?_) (fun c_11 => ?_)
  · refine lv_aload_n hx hb dX3_bucketOf_24 rfl (lv_at hl 0 rfl) ?_
    refine lv_iload_n hx hb dX3_bucketOf_25 rfl (lv_at hl 3 rfl) ?_
    refine cr_i (va_runV (As := [.int x0]) (rest := []) ⟨hx, hb, hml, hown, hts⟩ (k_X1_bucketFor l D cI cZ cJ cK _ z0 x0 e0 zn zw zv zs zl zm zk lo x.toNat (hlo) (hlo4) (hxv.trans (congrArg iI (by omega))) (by omega)) (cwV 1 hts (gV qw343 qw270 qw271 qw12 qw272) rfl rfl rfl (by decide +kernel) ⟨Nat.le_of_ble_eq_true rfl, Nat.le_of_ble_eq_true rfl⟩) (pv (ci := 1) (r := (RX1, TX1, 8)) (q0 := 1) hP hD hK hT hZ hS [1] rfl rfl rfl rfl) rfl rfl hl.1 rfl (lv_room (Nat.le_of_ble_eq_true rfl)) dX3_bucketOf_26 ⟨Nat.le_of_ble_eq_true rfl, Nat.le_of_ble_eq_true rfl⟩) hS hP (fun x_26 H locs hw_26 hP hS => ?_)
    have hw_26 : (x_26 = iI (↑(bk lo x.toNat))) := hw_26
    have v_26 := hw_26
    refine vx_ret ?_
    refine W.widen (k := 1) (n := 6) (by omega) (by omega) ?_
    exact W.iret (v := x_26) hx hb hr (fun t ht hW => ⟨⟨x_26, (), rfl, ⟨v_26, ⟨by omega, by omega⟩⟩, trivial⟩, hS.F ht⟩) hS.2.2 dX3_bucketOf_29
  · exact lz_throw (text := "the heat is not the low of the hearth to 1023") hx hb hl0 hown hts hT hZ hS (by rw [hml]; exact hl.1) (by decide +kernel) at_A (by decide +kernel) dX3_bucketOf_14 dX3_bucketOf_17 dX3_bucketOf_18 dX3_bucketOf_20 dX3_bucketOf_23 (fun x hx9 => (hext x hx9).elim) (Nat.le_of_ble_eq_true rfl) (Nat.le_of_ble_eq_true rfl) (Nat.le_of_ble_eq_true rfl) (Nat.le_of_ble_eq_true rfl) hlocks (fun t hv1 h1 h2 => ⟨(), trivial, ⟨rfl, by omega⟩, va_F_grow hS h1 h2⟩) (fun z hz => (hS.2.2 z hz).elim) (by omega) (by omega)
set_option maxHeartbeats 4000000 in
set_option maxRecDepth 100000 in
theorem k_X3_light_1 (l : Launch) (hl0 : l.stackTraces = false) (D : va_G) (cI cZ cJ cK : ClassId) (hz9 : Nat) (r0 : Nat) (h0 : Int32) (x0 : Int32) (e0 : Nat) (z0 : Nat) (o0 : Nat) (t0 : Nat) (qn : Int32) (eh : Nat) (eo : Nat) (ev : Nat) (er : Nat) (el : Int32) (fh : Nat → Int32) (fo : Nat → Int32) (on : Int32) (ow : Nat) (ov : Nat) (os : Nat) (ol : Int32) (om : Int32) (ok : Int32) (owa : Nat) (osz : Int32) (of : Nat → Int32) (osf : Nat → Int32) (lo n : Nat) (Hh : Nat → Nat) (L : List Nat) (x : Int) (hem : embIs el fh n Hh) (hhe : heaIs ol osz of osf lo n Hh L) (hhv : h0 = iI (1)) (hxv : x0 = iI x) (hxr : -2147483648 ≤ x ∧ x < 2147483648) (hLn : L.length ≤ n) : vx_Met l yX3_light (ws_ yX3_light cX3_light 5 (Option.some .int)) ({ frames := 6, cells := 1, slots := 6, locals := 82 }) (va_Pc [.ref r0, .int h0, .int x0] (wPre D cI cZ cJ cK hz9 [(r0, .inr (3, [.ref e0, .ref z0, .ref o0, .ref t0, .int qn])), (e0, .inr (0, [.ref eh, .ref eo, .ref ev, .ref er, .int el])), (eh, .inl (cI, 40, .inl fh)), (eo, .inl (cI, 40, .inl fo)), (o0, .inr (1, [.ref e0, .int on, .ref ow, .ref ov, .ref os, .int ol, .int om, .int ok])), (ow, .inr (2, [.ref owa, .int osz])), (owa, .inl (cI, 40, .inl of)), (os, .inl (cI, 11, .inl osf))])) (va_Qi (fun r (u : Int32 × (Nat → Int32) × (Nat → Int32) × Int32 × (Nat → Int32) × (Nat → Int32)) => (r = iI (↑n)) ∧ (((↑lo : Int) ≤ x ∧ x ≤ 1023) ∧ n < 40) ∧ (embIs u.1 u.2.1 (n + 1) (va_up Hh n x.toNat)) ∧ (u.2.2.1 = upd fo n (iI (1))) ∧ (heaIs ol u.2.2.2.1 u.2.2.2.2.1 u.2.2.2.2.2 lo (n + 1) (va_up Hh n x.toNat) (ins (ka lo (va_up Hh n x.toNat)) L n))) (fun (u : Int32 × (Nat → Int32) × (Nat → Int32) × Int32 × (Nat → Int32) × (Nat → Int32)) t => wPost D (va_A [(r0, .inr (3, [.ref e0, .ref z0, .ref o0, .ref t0, .int qn])), (e0, .inr (0, [.ref eh, .ref eo, .ref ev, .ref er, .int el])), (eh, .inl (cI, 40, .inl fh)), (eo, .inl (cI, 40, .inl fo)), (o0, .inr (1, [.ref e0, .int on, .ref ow, .ref ov, .ref os, .int ol, .int om, .int ok])), (ow, .inr (2, [.ref owa, .int osz])), (owa, .inl (cI, 40, .inl of)), (os, .inl (cI, 11, .inl osf))] hz9) [(r0, .inr (3, [.ref e0, .ref z0, .ref o0, .ref t0, .int qn])), (e0, .inr (0, [.ref eh, .ref eo, .ref ev, .ref er, .int u.1])), (eh, .inl (cI, 40, .inl u.2.1)), (eo, .inl (cI, 40, .inl u.2.2.1)), (o0, .inr (1, [.ref e0, .int on, .ref ow, .ref ov, .ref os, .int ol, .int om, .int ok])), (ow, .inr (2, [.ref owa, .int u.2.2.2.1])), (owa, .inl (cI, 40, .inl u.2.2.2.2.1)), (os, .inl (cI, 11, .inl u.2.2.2.2.2))] t) (va_A [(r0, .inr (3, [.ref e0, .ref z0, .ref o0, .ref t0, .int qn])), (e0, .inr (0, [.ref eh, .ref eo, .ref ev, .ref er, .int el])), (eh, .inl (cI, 40, .inl fh)), (eo, .inl (cI, 40, .inl fo)), (o0, .inr (1, [.ref e0, .int on, .ref ow, .ref ov, .ref os, .int ol, .int om, .int ok])), (ow, .inr (2, [.ref owa, .int osz])), (owa, .inl (cI, 40, .inl of)), (os, .inl (cI, 11, .inl osf))] hz9)) (vx_X (fun (_ : Unit) => True) (fun E _ _ => (E = xA ∧ ¬ ((↑lo : Int) ≤ x ∧ x ≤ 1023)) ∨ (E = xS ∧ ((↑lo : Int) ≤ x ∧ x ≤ 1023) ∧ ¬ n < 40)) (fun _ => False)) 1 6 (va_A [(r0, .inr (3, [.ref e0, .ref z0, .ref o0, .ref t0, .int qn])), (e0, .inr (0, [.ref eh, .ref eo, .ref ev, .ref er, .int el])), (eh, .inl (cI, 40, .inl fh)), (eo, .inl (cI, 40, .inl fo)), (o0, .inr (1, [.ref e0, .int on, .ref ow, .ref ov, .ref os, .int ol, .int om, .int ok])), (ow, .inr (2, [.ref owa, .int osz])), (owa, .inl (cI, 40, .inl of)), (os, .inl (cI, 11, .inl osf))] hz9) := by
  refine vx_ofW (cc := cX3_light) (maxL := 5) (ret := (Option.some .int)) (by decide) rfl ?_
  intro p e s m args below meth c s₁ hBd hml hext hv
  obtain ⟨rfl, hsz, hP, hD, hK, hT, hZ⟩ := hv
  have hx := hBd.exec
  have hb := hBd.bytes
  have hr := hBd.returns
  have hts : ∀ w ∈ lw_G, w.before _ s = true := fun w h => atoms_spec (ws := (ws_ yX3_light cX3_light 5 (Option.some .int))) hBd.pre w (List.mem_cons_of_mem _ h)
  have hown : s.vm.findClass RX3 = some m.cls := findClass_of_methodNamed hBd.named
  have hlocks := hBd.notSynchronized
  subst hsz
  have hD := hD.self (sz := s.heap.size)
  have hZA := hZ.own hP
  generalize hAe : va_A [(r0, .inr (3, [.ref e0, .ref z0, .ref o0, .ref t0, .int qn])), (e0, .inr (0, [.ref eh, .ref eo, .ref ev, .ref er, .int el])), (eh, .inl (cI, 40, .inl fh)), (eo, .inl (cI, 40, .inl fo)), (o0, .inr (1, [.ref e0, .int on, .ref ow, .ref ov, .ref os, .int ol, .int om, .int ok])), (ow, .inr (2, [.ref owa, .int osz])), (owa, .inl (cI, 40, .inl of)), (os, .inl (cI, 11, .inl osf))] s.heap.size = A at hD hZA ⊢
  have hA : ∀ q : Nat, s.heap.size ≤ q → A q := fun q h => by rw [← hAe]; exact Or.inr h
  have hS : va_S (fun _ => False) s.heap s.heap [] := va_S.rf
  have hl := lv_entry ([.ref r0, .int h0, .int x0]) (n := 5) (Nat.le_of_ble_eq_true rfl)
  rw [lg_entry_eq]
  generalize (lg_sl ([.ref r0, .int h0, .int x0]) ++ List.replicate (5 - (lg_sl ([.ref r0, .int h0, .int x0])).length) Slot.unset).toArray = ls at hl ⊢
  have hl : lv_has ls 5 [(0, .ref r0), (1, .int h0), (2, .int x0)] := hl
  have hP : va_P D vwCl [(r0, .inr (3, [.ref e0, .ref z0, .ref o0, .ref t0, .int qn])), (e0, .inr (0, [.ref eh, .ref eo, .ref ev, .ref er, .int el])), (eh, .inl (cI, 40, .inl fh)), (eo, .inl (cI, 40, .inl fo)), (o0, .inr (1, [.ref e0, .int on, .ref ow, .ref ov, .ref os, .int ol, .int om, .int ok])), (ow, .inr (2, [.ref owa, .int osz])), (owa, .inl (cI, 40, .inl of)), (os, .inl (cI, 11, .inl osf))] s.heap := hP
  obtain ⟨hn, hn4, hfh⟩ := id hem
  obtain ⟨hlo, hlo4, hrow, hsz, hLx⟩ := id hhe
  refine lv_aload_n hx hb dX3_light_0 rfl (lv_at hl 0 rfl) ?_
  refine lv_iload_n hx hb dX3_light_1 rfl (lv_at hl 1 rfl) ?_
  refine cr_r (va_runV (As := [.int h0]) (rest := []) ⟨hx, hb, hml, hown, hts⟩ (k_X3_hearthOf_1 l D cI cZ cJ cK _ r0 h0 e0 z0 o0 t0 qn (hhv.trans (congrArg iI (by omega)))) (cwV 1 hts (gV qw119 qw121 qw0 qw10 qw122) rfl rfl rfl (by decide +kernel) ⟨Nat.le_of_ble_eq_true rfl, Nat.le_of_ble_eq_true rfl⟩) (pv (ci := 3) (r := (RX3, TX3, 5)) (q0 := 0) hP hD hK hT hZ hS [0] rfl rfl rfl rfl) rfl rfl hl.1 rfl (lv_room (Nat.le_of_ble_eq_true rfl)) dX3_light_2 ⟨Nat.le_of_ble_eq_true rfl, Nat.le_of_ble_eq_true rfl⟩) hS hP (fun x_2 H locs hw_2 hP hS => ?_)
  have hw_2 : (x_2 = o0) := hw_2
  have v_2 := hw_2
  have v_2 := v_2.symm
  subst v_2
  refine lv_astore_n (lv' := [(3, .ref o0), (0, .ref r0), (1, .int h0), (2, .int x0)]) hx hb dX3_light_5 rfl hl (by decide) rfl (fun ls hl => ?_)
  refine lv_aload_n hx hb dX3_light_6 rfl (lv_at hl 0 rfl) ?_
  refine lv_iload_n hx hb dX3_light_7 rfl (lv_at hl 3 rfl) ?_
  refine cr_i (va_runV (As := [.int x0]) (rest := []) ⟨hx, hb, hml, hown, hts⟩ (k_X1_takesHeat l D cI cZ cJ cK _ o0 x0 e0 on ow ov os ol om ok lo x (hlo) (hlo4) (hxv) (hxr)) (cwV 1 hts (gV qw323 qw324 qw325 qw12 qw326) rfl rfl rfl (by decide +kernel) ⟨Nat.le_of_ble_eq_true rfl, Nat.le_of_ble_eq_true rfl⟩) (pv (ci := 1) (r := (RX1, TX1, 8)) (q0 := 4) hP hD hK hT hZ hS [4] rfl rfl rfl rfl) rfl rfl hl.1 rfl (lv_room (Nat.le_of_ble_eq_true rfl)) dX3_light_8 ⟨Nat.le_of_ble_eq_true rfl, Nat.le_of_ble_eq_true rfl⟩) hS hP (fun x_8 H locs hw_8 hP hS => ?_)
  have hw_8 : (x_8 = iI (if (↑lo : Int) ≤ x ∧ x ≤ 1023 then 1 else 0)) := hw_8
  have v_8 := hw_8
  refine lz_if_ne (tgt := 24) hx hb v_8 (by omega) dX3_light_11 (by decide) (fun c_11 => ?_) (fun c_11 => ?_)
  · refine lv_aload_n hx hb dX3_light_24 rfl (lv_at hl 1 rfl) ?_
    refine va_get (D := D) (ci := 3) (v := .ref e0) (C := RX3) (T := TX3) (N := 5) hx hb hts iX3 hown hK hP 0 rfl rfl 0 (by decide) (hts _ qw99) (fun _ h9 => h9) rfl dX3_light_25 ?_
    refine cr_i (va_runV (As := []) (rest := []) ⟨hx, hb, hml, hown, hts⟩ (k_X0_lit l D cI cZ cJ cK _ e0 eh eo ev er el ) (cwV 0 hts (gV qw401 qw402 qw403 qw11 qw404) rfl rfl rfl (by decide +kernel) ⟨Nat.le_of_ble_eq_true rfl, Nat.le_of_ble_eq_true rfl⟩) (pv (ci := 0) (r := (RX0, TX0, 5)) (q0 := 1) hP hD hK hT hZ hS [1] rfl rfl rfl rfl) rfl rfl hl.1 rfl (lv_room (Nat.le_of_ble_eq_true rfl)) dX3_light_28 ⟨Nat.le_of_ble_eq_true rfl, Nat.le_of_ble_eq_true rfl⟩) hS hP (fun x_28 H locs hw_28 hP hS => ?_)
    have hw_28 : (x_28 = el) := hw_28
    have v_28 := hw_28
    refine lz_bipush hx hb (by decide) dX3_light_31 (fun x_31 v_31 => ?_)
    refine lz_icmp_lt (tgt := 46) hx hb (v_28.trans hn) v_31 ⟨by omega, by omega⟩ dX3_light_33 (by decide) (fun c_33 => ?_) (fun c_33 => ?_)
    · refine lv_aload_n hx hb dX3_light_46 rfl (lv_at hl 1 rfl) ?_
      refine va_get (D := D) (ci := 3) (v := .ref e0) (C := RX3) (T := TX3) (N := 5) hx hb hts iX3 hown hK hP 0 rfl rfl 0 (by decide) (hts _ qw99) (fun _ h9 => h9) rfl dX3_light_47 ?_
      refine lv_iload_n hx hb dX3_light_50 rfl (lv_at hl 3 rfl) ?_
      refine lv_iload_n hx hb dX3_light_51 rfl (lv_at hl 2 rfl) ?_
      have hS := va_S.weak (A := A) hS
      have hZ := hZA
      refine cm_i (wr := [(r0, .inr (3, [.ref e0, .ref z0, .ref o0, .ref t0, .int qn])), (o0, .inr (1, [.ref e0, .int on, .ref ow, .ref ov, .ref os, .int ol, .int om, .int ok])), (ow, .inr (2, [.ref owa, .int osz])), (owa, .inl (cI, 40, .inl of)), (os, .inl (cI, 11, .inl osf))]) (va_runV (As := [.int x0, .int h0]) (rest := []) ⟨hx, hb, hml, hown, hts⟩ (k_X0_add l D cI cZ cJ cK _ e0 x0 h0 eh eo ev er el fh fo n (hn) (by omega)) (cwV 2 hts (gV qw602 qw603 qw604 qw11 qw605) rfl rfl rfl (by decide +kernel) ⟨Nat.le_of_ble_eq_true rfl, Nat.le_of_ble_eq_true rfl⟩) (pv (ci := 0) (r := (RX0, TX0, 5)) (q0 := 1) hP hD hK hT hZ hS [1, 2, 3] rfl rfl rfl rfl) rfl rfl hl.1 rfl (lv_room (Nat.le_of_ble_eq_true rfl)) dX3_light_52 ⟨Nat.le_of_ble_eq_true rfl, Nat.le_of_ble_eq_true rfl⟩) hS hP hD hA [1, 2, 3] [0, 4, 5, 6, 7] rfl rfl rfl (by decide) (fun x_52 u_52 H locs hw_52 hP hD hS => ?_)
      obtain ⟨l2_52, g_52, g2_52⟩ := u_52
      have hP : va_P D vwCl [(r0, .inr (3, [.ref e0, .ref z0, .ref o0, .ref t0, .int qn])), (o0, .inr (1, [.ref e0, .int on, .ref ow, .ref ov, .ref os, .int ol, .int om, .int ok])), (ow, .inr (2, [.ref owa, .int osz])), (owa, .inl (cI, 40, .inl of)), (os, .inl (cI, 11, .inl osf)), (e0, .inr (0, [.ref eh, .ref eo, .ref ev, .ref er, .int l2_52])), (eh, .inl (cI, 40, .inl g_52)), (eo, .inl (cI, 40, .inl g2_52))] H := hP
      have hD : va_D A [(r0, .inr (3, [.ref e0, .ref z0, .ref o0, .ref t0, .int qn])), (o0, .inr (1, [.ref e0, .int on, .ref ow, .ref ov, .ref os, .int ol, .int om, .int ok])), (ow, .inr (2, [.ref owa, .int osz])), (owa, .inl (cI, 40, .inl of)), (os, .inl (cI, 11, .inl osf)), (e0, .inr (0, [.ref eh, .ref eo, .ref ev, .ref er, .int l2_52])), (eh, .inl (cI, 40, .inl g_52)), (eo, .inl (cI, 40, .inl g2_52))] := hD
      have hw_52 : (x_52 = iI (↑n)) ∧ (l2_52 = iI (↑n + 1)) ∧ (g_52 = upd fh n x0) ∧ (g2_52 = upd fo n h0) := hw_52
      obtain ⟨v_52, a_52, b_52, c_52⟩ := hw_52
      have hx2 : x0 = iI ↑x.toNat := hxv.trans (congrArg iI (by omega))
      have hem2 := embIs_add (x := x.toNat) hem (by omega) (by omega) hx2 b_52 a_52
      have hnL : n ∉ L := fun q => Nat.lt_irrefl _ (hLx n q)
      have hhe2 := heaIs_congr (n2 := n + 1) hhe (Nat.le_succ n) (up_ne_of (x := x.toNat) hnL)
      refine lv_istore (lv' := [(4, .int x_52), (3, .ref o0), (0, .ref r0), (1, .int h0), (2, .int x0)]) hx hb dX3_light_55 hl (by decide) rfl (fun ls hl => ?_)
      refine lv_aload_n hx hb dX3_light_57 rfl (lv_at hl 1 rfl) ?_
      refine lv_iload hx hb dX3_light_58 (lv_at hl 0 rfl) ?_
      refine cm_v (wr := [(r0, .inr (3, [.ref e0, .ref z0, .ref o0, .ref t0, .int qn])), (eo, .inl (cI, 40, .inl g2_52))]) (va_runV (As := [.int x_52]) (rest := []) ⟨hx, hb, hml, hown, hts⟩ (k_X1_put l D cI cZ cJ cK _ o0 x_52 e0 on ow ov os ol om ok owa osz of osf eh eo ev er l2_52 g_52 lo (n + 1) n (va_up Hh n x.toNat) L (hem2) (hhe2) (v_52.trans (congrArg iI (by omega))) (Nat.lt_succ_self n) (by omega)) (cwV 1 hts (gV qw545 qw266 qw267 qw12 qw268) rfl rfl rfl (by decide +kernel) ⟨Nat.le_of_ble_eq_true rfl, Nat.le_of_ble_eq_true rfl⟩) (pv (ci := 1) (r := (RX1, TX1, 8)) (q0 := 1) hP hD hK hT hZ hS [1, 2, 3, 4, 5, 6] rfl rfl rfl rfl) rfl rfl hl.1 rfl (lv_room (Nat.le_of_ble_eq_true rfl)) dX3_light_60 ⟨Nat.le_of_ble_eq_true rfl, Nat.le_of_ble_eq_true rfl⟩) hS hP hD hA [1, 2, 3, 4, 5, 6] [0, 7] rfl rfl rfl (by decide) (fun u_60 H locs hw_60 hP hD hS => ?_)
      obtain ⟨sz2_60, f2_60, sf2_60⟩ := u_60
      have hP : va_P D vwCl [(r0, .inr (3, [.ref e0, .ref z0, .ref o0, .ref t0, .int qn])), (eo, .inl (cI, 40, .inl g2_52)), (o0, .inr (1, [.ref e0, .int on, .ref ow, .ref ov, .ref os, .int ol, .int om, .int ok])), (ow, .inr (2, [.ref owa, .int sz2_60])), (owa, .inl (cI, 40, .inl f2_60)), (os, .inl (cI, 11, .inl sf2_60)), (e0, .inr (0, [.ref eh, .ref eo, .ref ev, .ref er, .int l2_52])), (eh, .inl (cI, 40, .inl g_52))] H := hP
      have hD : va_D A [(r0, .inr (3, [.ref e0, .ref z0, .ref o0, .ref t0, .int qn])), (eo, .inl (cI, 40, .inl g2_52)), (o0, .inr (1, [.ref e0, .int on, .ref ow, .ref ov, .ref os, .int ol, .int om, .int ok])), (ow, .inr (2, [.ref owa, .int sz2_60])), (owa, .inl (cI, 40, .inl f2_60)), (os, .inl (cI, 11, .inl sf2_60)), (e0, .inr (0, [.ref eh, .ref eo, .ref ev, .ref er, .int l2_52])), (eh, .inl (cI, 40, .inl g_52))] := hD
      have hw_60 : (heaIs ol sz2_60 f2_60 sf2_60 lo (n + 1) (va_up Hh n x.toNat) (ins (ka lo (va_up Hh n x.toNat)) L n)) := hw_60
      have v_60 := hw_60
      refine lv_iload hx hb dX3_light_63 (lv_at hl 0 rfl) ?_
      have hP9 := va_P_subm (ws' := [(r0, .inr (3, [.ref e0, .ref z0, .ref o0, .ref t0, .int qn])), (e0, .inr (0, [.ref eh, .ref eo, .ref ev, .ref er, .int l2_52])), (eh, .inl (cI, 40, .inl g_52)), (eo, .inl (cI, 40, .inl g2_52)), (o0, .inr (1, [.ref e0, .int on, .ref ow, .ref ov, .ref os, .int ol, .int om, .int ok])), (ow, .inr (2, [.ref owa, .int sz2_60])), (owa, .inl (cI, 40, .inl f2_60)), (os, .inl (cI, 11, .inl sf2_60))]) hP [0, 6, 7, 1, 2, 3, 4, 5] rfl
      have hD9 := hD.sub (ws' := [(r0, .inr (3, [.ref e0, .ref z0, .ref o0, .ref t0, .int qn])), (e0, .inr (0, [.ref eh, .ref eo, .ref ev, .ref er, .int l2_52])), (eh, .inl (cI, 40, .inl g_52)), (eo, .inl (cI, 40, .inl g2_52)), (o0, .inr (1, [.ref e0, .int on, .ref ow, .ref ov, .ref os, .int ol, .int om, .int ok])), (ow, .inr (2, [.ref owa, .int sz2_60])), (owa, .inl (cI, 40, .inl f2_60)), (os, .inl (cI, 11, .inl sf2_60))]) [0, 6, 7, 1, 2, 3, 4, 5] rfl rfl
      refine vx_ret ?_
      refine W.widen (k := 1) (n := 6) (by omega) (by omega) ?_
      exact W.iret (v := x_52) hx hb hr (fun t ht hW => ⟨⟨x_52, ⟨l2_52, g_52, g2_52, sz2_60, f2_60, sf2_60⟩, rfl, ⟨v_52, ⟨by omega, by omega⟩, hem2, c_52.trans (by rw [hhv]), v_60⟩, ⟨by rw [ht]; exact hP9, hD9⟩⟩, hS.F ht⟩) hS.2.2 dX3_light_65
    · exact lz_throw (text := "40 embers were lit") hx hb hl0 hown hts hT hZ hS (by rw [hml]; exact hl.1) (by decide +kernel) at_S (by decide +kernel) dX3_light_36 dX3_light_39 dX3_light_40 dX3_light_42 dX3_light_45 (fun x hx9 => (hext x hx9).elim) (Nat.le_of_ble_eq_true rfl) (Nat.le_of_ble_eq_true rfl) (Nat.le_of_ble_eq_true rfl) (Nat.le_of_ble_eq_true rfl) hlocks (fun t hv1 h1 h2 => ⟨(), trivial, Or.inr ⟨rfl, by omega, by omega⟩, va_F_grow hS h1 h2⟩) (fun z hz => (hS.2.2 z hz).elim) (by omega) (by omega)
  · exact lz_throw (text := "the heat is not the low of the hearth to 1023") hx hb hl0 hown hts hT hZ hS (by rw [hml]; exact hl.1) (by decide +kernel) at_A (by decide +kernel) dX3_light_14 dX3_light_17 dX3_light_18 dX3_light_20 dX3_light_23 (fun x hx9 => (hext x hx9).elim) (Nat.le_of_ble_eq_true rfl) (Nat.le_of_ble_eq_true rfl) (Nat.le_of_ble_eq_true rfl) (Nat.le_of_ble_eq_true rfl) hlocks (fun t hv1 h1 h2 => ⟨(), trivial, Or.inl ⟨rfl, by omega⟩, va_F_grow hS h1 h2⟩) (fun z hz => (hS.2.2 z hz).elim) (by omega) (by omega)
set_option maxHeartbeats 4000000 in
set_option maxRecDepth 100000 in
theorem k_X3_fade_1 (l : Launch) (hl0 : l.stackTraces = false) (D : va_G) (cI cZ cJ cK : ClassId) (hz9 : Nat) (r0 : Nat) (y0 : Int32) (x0 : Int32) (e0 : Nat) (z0 : Nat) (o0 : Nat) (t0 : Nat) (qn : Int32) (eh : Nat) (eo : Nat) (ev : Nat) (er : Nat) (el : Int32) (fh : Nat → Int32) (fo : Nat → Int32) (on : Int32) (ow : Nat) (ov : Nat) (os : Nat) (ol : Int32) (om : Int32) (ok : Int32) (owa : Nat) (osz : Int32) (of : Nat → Int32) (osf : Nat → Int32) (lo n : Nat) (Hh : Nat → Nat) (L : List Nat) (eb : Nat) (x : Int) (hem : embIs el fh n Hh) (hhe : heaIs ol osz of osf lo n Hh L) (hok : heaOk lo Hh L) (hxv : x0 = iI x) (hxr : -2147483648 ≤ x ∧ x < 2147483648) (hev : y0 = iI ↑eb) (hen : eb < n) (hfo : fo eb = iI (1)) (heL : eb ∈ L) : vx_Met l yX3_fade (ws_ yX3_fade cX3_fade 4 (Option.some .int)) ({ frames := 6, cells := 1, slots := 6, locals := 82 }) (va_Pc [.ref r0, .int y0, .int x0] (wPre D cI cZ cJ cK hz9 [(r0, .inr (3, [.ref e0, .ref z0, .ref o0, .ref t0, .int qn])), (e0, .inr (0, [.ref eh, .ref eo, .ref ev, .ref er, .int el])), (eh, .inl (cI, 40, .inl fh)), (eo, .inl (cI, 40, .inl fo)), (o0, .inr (1, [.ref e0, .int on, .ref ow, .ref ov, .ref os, .int ol, .int om, .int ok])), (ow, .inr (2, [.ref owa, .int osz])), (owa, .inl (cI, 40, .inl of)), (os, .inl (cI, 11, .inl osf))])) (va_Qi (fun r (u : (Nat → Int32) × Int32 × (Nat → Int32) × (Nat → Int32)) => (r = iI (↑(bk lo x.toNat))) ∧ ((↑lo : Int) ≤ x ∧ x < ↑(Hh eb)) ∧ (embIs el u.1 n (va_up Hh eb x.toNat)) ∧ (heaIs ol u.2.1 u.2.2.1 u.2.2.2 lo n (va_up Hh eb x.toNat) (ins (ka lo (va_up Hh eb x.toNat)) (del L eb) eb))) (fun (u : (Nat → Int32) × Int32 × (Nat → Int32) × (Nat → Int32)) t => wPost D (va_A [(r0, .inr (3, [.ref e0, .ref z0, .ref o0, .ref t0, .int qn])), (e0, .inr (0, [.ref eh, .ref eo, .ref ev, .ref er, .int el])), (eh, .inl (cI, 40, .inl fh)), (eo, .inl (cI, 40, .inl fo)), (o0, .inr (1, [.ref e0, .int on, .ref ow, .ref ov, .ref os, .int ol, .int om, .int ok])), (ow, .inr (2, [.ref owa, .int osz])), (owa, .inl (cI, 40, .inl of)), (os, .inl (cI, 11, .inl osf))] hz9) [(r0, .inr (3, [.ref e0, .ref z0, .ref o0, .ref t0, .int qn])), (e0, .inr (0, [.ref eh, .ref eo, .ref ev, .ref er, .int el])), (eh, .inl (cI, 40, .inl u.1)), (eo, .inl (cI, 40, .inl fo)), (o0, .inr (1, [.ref e0, .int on, .ref ow, .ref ov, .ref os, .int ol, .int om, .int ok])), (ow, .inr (2, [.ref owa, .int u.2.1])), (owa, .inl (cI, 40, .inl u.2.2.1)), (os, .inl (cI, 11, .inl u.2.2.2))] t) (va_A [(r0, .inr (3, [.ref e0, .ref z0, .ref o0, .ref t0, .int qn])), (e0, .inr (0, [.ref eh, .ref eo, .ref ev, .ref er, .int el])), (eh, .inl (cI, 40, .inl fh)), (eo, .inl (cI, 40, .inl fo)), (o0, .inr (1, [.ref e0, .int on, .ref ow, .ref ov, .ref os, .int ol, .int om, .int ok])), (ow, .inr (2, [.ref owa, .int osz])), (owa, .inl (cI, 40, .inl of)), (os, .inl (cI, 11, .inl osf))] hz9)) (vx_X (fun (_ : Unit) => True) (fun E _ _ => E = xA ∧ ¬ ((↑lo : Int) ≤ x ∧ x < ↑(Hh eb))) (fun _ => False)) 1 6 (va_A [(r0, .inr (3, [.ref e0, .ref z0, .ref o0, .ref t0, .int qn])), (e0, .inr (0, [.ref eh, .ref eo, .ref ev, .ref er, .int el])), (eh, .inl (cI, 40, .inl fh)), (eo, .inl (cI, 40, .inl fo)), (o0, .inr (1, [.ref e0, .int on, .ref ow, .ref ov, .ref os, .int ol, .int om, .int ok])), (ow, .inr (2, [.ref owa, .int osz])), (owa, .inl (cI, 40, .inl of)), (os, .inl (cI, 11, .inl osf))] hz9) := by
  refine vx_ofW (cc := cX3_fade) (maxL := 4) (ret := (Option.some .int)) (by decide) rfl ?_
  intro p e s m args below meth c s₁ hBd hml hext hv
  obtain ⟨rfl, hsz, hP, hD, hK, hT, hZ⟩ := hv
  have hx := hBd.exec
  have hb := hBd.bytes
  have hr := hBd.returns
  have hts : ∀ w ∈ lw_G, w.before _ s = true := fun w h => atoms_spec (ws := (ws_ yX3_fade cX3_fade 4 (Option.some .int))) hBd.pre w (List.mem_cons_of_mem _ h)
  have hown : s.vm.findClass RX3 = some m.cls := findClass_of_methodNamed hBd.named
  have hlocks := hBd.notSynchronized
  subst hsz
  have hD := hD.self (sz := s.heap.size)
  have hZA := hZ.own hP
  generalize hAe : va_A [(r0, .inr (3, [.ref e0, .ref z0, .ref o0, .ref t0, .int qn])), (e0, .inr (0, [.ref eh, .ref eo, .ref ev, .ref er, .int el])), (eh, .inl (cI, 40, .inl fh)), (eo, .inl (cI, 40, .inl fo)), (o0, .inr (1, [.ref e0, .int on, .ref ow, .ref ov, .ref os, .int ol, .int om, .int ok])), (ow, .inr (2, [.ref owa, .int osz])), (owa, .inl (cI, 40, .inl of)), (os, .inl (cI, 11, .inl osf))] s.heap.size = A at hD hZA ⊢
  have hA : ∀ q : Nat, s.heap.size ≤ q → A q := fun q h => by rw [← hAe]; exact Or.inr h
  have hS : va_S (fun _ => False) s.heap s.heap [] := va_S.rf
  have hl := lv_entry ([.ref r0, .int y0, .int x0]) (n := 4) (Nat.le_of_ble_eq_true rfl)
  rw [lg_entry_eq]
  generalize (lg_sl ([.ref r0, .int y0, .int x0]) ++ List.replicate (4 - (lg_sl ([.ref r0, .int y0, .int x0])).length) Slot.unset).toArray = ls at hl ⊢
  have hl : lv_has ls 4 [(0, .ref r0), (1, .int y0), (2, .int x0)] := hl
  have hP : va_P D vwCl [(r0, .inr (3, [.ref e0, .ref z0, .ref o0, .ref t0, .int qn])), (e0, .inr (0, [.ref eh, .ref eo, .ref ev, .ref er, .int el])), (eh, .inl (cI, 40, .inl fh)), (eo, .inl (cI, 40, .inl fo)), (o0, .inr (1, [.ref e0, .int on, .ref ow, .ref ov, .ref os, .int ol, .int om, .int ok])), (ow, .inr (2, [.ref owa, .int osz])), (owa, .inl (cI, 40, .inl of)), (os, .inl (cI, 11, .inl osf))] s.heap := hP
  obtain ⟨hn, hn4, hfh⟩ := id hem
  obtain ⟨hlo, hlo4, hrow, hsz, hLx⟩ := id hhe
  have hHe := (hfh eb hen).2
  refine lv_aload_n hx hb dX3_fade_0 rfl (lv_at hl 0 rfl) ?_
  refine lv_iload_n hx hb dX3_fade_1 rfl (lv_at hl 1 rfl) ?_
  refine cr_r (va_runV (As := [.int y0]) (rest := []) ⟨hx, hb, hml, hown, hts⟩ (k_X3_homeOfBurning_1 l D cI cZ cJ cK _ r0 y0 e0 z0 o0 t0 qn eh eo ev er el fo n eb (hn) (hn4) (hev.trans (congrArg iI (by omega))) (hen) (hfo)) (cwV 1 hts (gV qw535 qw537 qw8 qw10 qw538) rfl rfl rfl (by decide +kernel) ⟨Nat.le_of_ble_eq_true rfl, Nat.le_of_ble_eq_true rfl⟩) (pv (ci := 3) (r := (RX3, TX3, 5)) (q0 := 0) hP hD hK hT hZ hS [0, 1, 3] rfl rfl rfl rfl) rfl rfl hl.1 rfl (lv_room (Nat.le_of_ble_eq_true rfl)) dX3_fade_2 ⟨Nat.le_of_ble_eq_true rfl, Nat.le_of_ble_eq_true rfl⟩) hS hP (fun x_2 H locs hw_2 hP hS => ?_)
  have hw_2 : (x_2 = o0) := hw_2
  have v_2 := hw_2
  have v_2 := v_2.symm
  subst v_2
  refine lv_astore_n (lv' := [(3, .ref o0), (0, .ref r0), (1, .int y0), (2, .int x0)]) hx hb dX3_fade_5 rfl hl (by decide) rfl (fun ls hl => ?_)
  refine lv_iload_n hx hb dX3_fade_6 rfl (lv_at hl 3 rfl) ?_
  refine lv_aload_n hx hb dX3_fade_7 rfl (lv_at hl 0 rfl) ?_
  refine cr_i (va_runV (As := []) (rest := [.int x0]) ⟨hx, hb, hml, hown, hts⟩ (k_X1_low l D cI cZ cJ cK _ o0 e0 on ow ov os ol om ok ) (cwV 0 hts (gV qw348 qw349 qw350 qw12 qw351) rfl rfl rfl (by decide +kernel) ⟨Nat.le_of_ble_eq_true rfl, Nat.le_of_ble_eq_true rfl⟩) (pv (ci := 1) (r := (RX1, TX1, 8)) (q0 := 4) hP hD hK hT hZ hS [4] rfl rfl rfl rfl) rfl rfl hl.1 rfl (lv_room (Nat.le_of_ble_eq_true rfl)) dX3_fade_8 ⟨Nat.le_of_ble_eq_true rfl, Nat.le_of_ble_eq_true rfl⟩) hS hP (fun x_8 H locs hw_8 hP hS => ?_)
  have hw_8 : (x_8 = ol) := hw_8
  have v_8 := hw_8
  refine lz_icmp_lt (tgt := 26) hx hb hxv (v_8.trans hlo) ⟨by omega, by omega⟩ dX3_fade_11 (by decide) (fun c_11 => ?_) (fun c_11 => ?_)
  · exact lz_throw (text := "the heat is not the low of the hearth to 1 less than it was") hx hb hl0 hown hts hT hZ hS (by rw [hml]; exact hl.1) (by decide +kernel) at_A (by decide +kernel) dX3_fade_26 dX3_fade_29 dX3_fade_30 dX3_fade_32 dX3_fade_35 (fun x hx9 => (hext x hx9).elim) (Nat.le_of_ble_eq_true rfl) (Nat.le_of_ble_eq_true rfl) (Nat.le_of_ble_eq_true rfl) (Nat.le_of_ble_eq_true rfl) hlocks (fun t hv1 h1 h2 => ⟨(), trivial, ⟨rfl, by omega⟩, va_F_grow hS h1 h2⟩) (fun z hz => (hS.2.2 z hz).elim) (by omega) (by omega)
  · refine lv_iload_n hx hb dX3_fade_14 rfl (lv_at hl 3 rfl) ?_
    refine lv_aload_n hx hb dX3_fade_15 rfl (lv_at hl 1 rfl) ?_
    refine va_get (D := D) (ci := 3) (v := .ref e0) (C := RX3) (T := TX3) (N := 5) hx hb hts iX3 hown hK hP 0 rfl rfl 0 (by decide) (hts _ qw99) (fun _ h9 => h9) rfl dX3_fade_16 ?_
    refine lv_iload_n hx hb dX3_fade_19 rfl (lv_at hl 2 rfl) ?_
    refine cr_i (va_runV (As := [.int y0]) (rest := [.int x0]) ⟨hx, hb, hml, hown, hts⟩ (k_X0_heatOf l D cI cZ cJ cK _ e0 y0 eh eo ev er el fh n eb (hn) (hn4) (hev.trans (congrArg iI (by omega))) (hen)) (cwV 1 hts (gV qw379 qw236 qw237 qw11 qw238) rfl rfl rfl (by decide +kernel) ⟨Nat.le_of_ble_eq_true rfl, Nat.le_of_ble_eq_true rfl⟩) (pv (ci := 0) (r := (RX0, TX0, 5)) (q0 := 1) hP hD hK hT hZ hS [1, 2] rfl rfl rfl rfl) rfl rfl hl.1 rfl (lv_room (Nat.le_of_ble_eq_true rfl)) dX3_fade_20 ⟨Nat.le_of_ble_eq_true rfl, Nat.le_of_ble_eq_true rfl⟩) hS hP (fun x_20 H locs hw_20 hP hS => ?_)
    have hw_20 : (x_20 = fh eb) := hw_20
    have v_20 := hw_20
    refine lz_icmp_lt (tgt := 36) hx hb hxv (v_20.trans (hfh eb hen).1) ⟨by omega, by omega⟩ dX3_fade_23 (by decide) (fun c_23 => ?_) (fun c_23 => ?_)
    · refine lv_aload_n hx hb dX3_fade_36 rfl (lv_at hl 0 rfl) ?_
      refine lv_iload_n hx hb dX3_fade_37 rfl (lv_at hl 2 rfl) ?_
      have hS := va_S.weak (A := A) hS
      have hZ := hZA
      refine cm_v (wr := [(r0, .inr (3, [.ref e0, .ref z0, .ref o0, .ref t0, .int qn])), (eo, .inl (cI, 40, .inl fo))]) (va_runV (As := [.int y0]) (rest := []) ⟨hx, hb, hml, hown, hts⟩ (k_X1_takeOut l D cI cZ cJ cK _ o0 y0 e0 on ow ov os ol om ok owa osz of osf eh eo ev er el fh lo n eb Hh L (hem) (hhe) (hev.trans (congrArg iI (by omega))) (heL)) (cwV 1 hts (gV qw442 qw286 qw287 qw12 qw288) rfl rfl rfl (by decide +kernel) ⟨Nat.le_of_ble_eq_true rfl, Nat.le_of_ble_eq_true rfl⟩) (pv (ci := 1) (r := (RX1, TX1, 8)) (q0 := 4) hP hD hK hT hZ hS [4, 5, 6, 7, 1, 2] rfl rfl rfl rfl) rfl rfl hl.1 rfl (lv_room (Nat.le_of_ble_eq_true rfl)) dX3_fade_38 ⟨Nat.le_of_ble_eq_true rfl, Nat.le_of_ble_eq_true rfl⟩) hS hP hD hA [4, 5, 6, 7, 1, 2] [0, 3] rfl rfl rfl (by decide) (fun u_38 H locs hw_38 hP hD hS => ?_)
      obtain ⟨sz2_38, f2_38, sf2_38⟩ := u_38
      have hP : va_P D vwCl [(r0, .inr (3, [.ref e0, .ref z0, .ref o0, .ref t0, .int qn])), (eo, .inl (cI, 40, .inl fo)), (o0, .inr (1, [.ref e0, .int on, .ref ow, .ref ov, .ref os, .int ol, .int om, .int ok])), (ow, .inr (2, [.ref owa, .int sz2_38])), (owa, .inl (cI, 40, .inl f2_38)), (os, .inl (cI, 11, .inl sf2_38)), (e0, .inr (0, [.ref eh, .ref eo, .ref ev, .ref er, .int el])), (eh, .inl (cI, 40, .inl fh))] H := hP
      have hD : va_D A [(r0, .inr (3, [.ref e0, .ref z0, .ref o0, .ref t0, .int qn])), (eo, .inl (cI, 40, .inl fo)), (o0, .inr (1, [.ref e0, .int on, .ref ow, .ref ov, .ref os, .int ol, .int om, .int ok])), (ow, .inr (2, [.ref owa, .int sz2_38])), (owa, .inl (cI, 40, .inl f2_38)), (os, .inl (cI, 11, .inl sf2_38)), (e0, .inr (0, [.ref eh, .ref eo, .ref ev, .ref er, .int el])), (eh, .inl (cI, 40, .inl fh))] := hD
      have hw_38 : (heaIs ol sz2_38 f2_38 sf2_38 lo n Hh (del L eb)) := hw_38
      have v_38 := hw_38
      refine lv_aload_n hx hb dX3_fade_41 rfl (lv_at hl 1 rfl) ?_
      refine va_get (D := D) (ci := 3) (v := .ref e0) (C := RX3) (T := TX3) (N := 5) hx hb hts iX3 hown hK hP 0 rfl rfl 0 (by decide) (hts _ qw99) (fun _ h9 => h9) rfl dX3_fade_42 ?_
      refine lv_iload_n hx hb dX3_fade_45 rfl (lv_at hl 2 rfl) ?_
      refine lv_iload_n hx hb dX3_fade_46 rfl (lv_at hl 3 rfl) ?_
      refine cm_v (wr := [(r0, .inr (3, [.ref e0, .ref z0, .ref o0, .ref t0, .int qn])), (eo, .inl (cI, 40, .inl fo)), (o0, .inr (1, [.ref e0, .int on, .ref ow, .ref ov, .ref os, .int ol, .int om, .int ok])), (ow, .inr (2, [.ref owa, .int sz2_38])), (owa, .inl (cI, 40, .inl f2_38)), (os, .inl (cI, 11, .inl sf2_38))]) (va_runV (As := [.int y0, .int x0]) (rest := []) ⟨hx, hb, hml, hown, hts⟩ (k_X0_setHeat l D cI cZ cJ cK _ e0 y0 x0 eh eo ev er el fh n eb (hn) (hn4) (hev.trans (congrArg iI (by omega))) (hen)) (cwV 2 hts (gV qw541 qw542 qw543 qw11 qw544) rfl rfl rfl (by decide +kernel) ⟨Nat.le_of_ble_eq_true rfl, Nat.le_of_ble_eq_true rfl⟩) (pv (ci := 0) (r := (RX0, TX0, 5)) (q0 := 6) hP hD hK hT hZ hS [6, 7] rfl rfl rfl rfl) rfl rfl hl.1 rfl (lv_room (Nat.le_of_ble_eq_true rfl)) dX3_fade_47 ⟨Nat.le_of_ble_eq_true rfl, Nat.le_of_ble_eq_true rfl⟩) hS hP hD hA [6, 7] [0, 1, 2, 3, 4, 5] rfl rfl rfl (by decide) (fun u_47 H locs hw_47 hP hD hS => ?_)
      obtain ⟨g_47, rfl⟩ : ∃ z, z = u_47 := ⟨_, rfl⟩
      have hP : va_P D vwCl [(r0, .inr (3, [.ref e0, .ref z0, .ref o0, .ref t0, .int qn])), (eo, .inl (cI, 40, .inl fo)), (o0, .inr (1, [.ref e0, .int on, .ref ow, .ref ov, .ref os, .int ol, .int om, .int ok])), (ow, .inr (2, [.ref owa, .int sz2_38])), (owa, .inl (cI, 40, .inl f2_38)), (os, .inl (cI, 11, .inl sf2_38)), (e0, .inr (0, [.ref eh, .ref eo, .ref ev, .ref er, .int el])), (eh, .inl (cI, 40, .inl g_47))] H := hP
      have hD : va_D A [(r0, .inr (3, [.ref e0, .ref z0, .ref o0, .ref t0, .int qn])), (eo, .inl (cI, 40, .inl fo)), (o0, .inr (1, [.ref e0, .int on, .ref ow, .ref ov, .ref os, .int ol, .int om, .int ok])), (ow, .inr (2, [.ref owa, .int sz2_38])), (owa, .inl (cI, 40, .inl f2_38)), (os, .inl (cI, 11, .inl sf2_38)), (e0, .inr (0, [.ref eh, .ref eo, .ref ev, .ref er, .int el])), (eh, .inl (cI, 40, .inl g_47))] := hD
      have hw_47 : (g_47 = upd fh eb x0) := hw_47
      have v_47 := hw_47
      have hx2 : x0 = iI ↑x.toNat := hxv.trans (congrArg iI (by omega))
      have hem2 := embIs_set (x := x.toNat) hem (by omega) hx2 v_47
      have hhe2 := heaIs_congr v_38 (Nat.le_refl n) (up_ne_of (x := x.toNat) (del_notin hok.2.1 heL))
      refine lv_aload_n hx hb dX3_fade_50 rfl (lv_at hl 0 rfl) ?_
      refine lv_iload_n hx hb dX3_fade_51 rfl (lv_at hl 2 rfl) ?_
      refine cm_v (wr := [(r0, .inr (3, [.ref e0, .ref z0, .ref o0, .ref t0, .int qn])), (eo, .inl (cI, 40, .inl fo))]) (va_runV (As := [.int y0]) (rest := []) ⟨hx, hb, hml, hown, hts⟩ (k_X1_put l D cI cZ cJ cK _ o0 y0 e0 on ow ov os ol om ok owa sz2_38 f2_38 sf2_38 eh eo ev er el g_47 lo n eb (va_up Hh eb x.toNat) (del L eb) (hem2) (hhe2) (hev.trans (congrArg iI (by omega))) (hen) (by have := del_len heL; have := hrow.2.1; omega)) (cwV 1 hts (gV qw545 qw266 qw267 qw12 qw268) rfl rfl rfl (by decide +kernel) ⟨Nat.le_of_ble_eq_true rfl, Nat.le_of_ble_eq_true rfl⟩) (pv (ci := 1) (r := (RX1, TX1, 8)) (q0 := 2) hP hD hK hT hZ hS [2, 3, 4, 5, 6, 7] rfl rfl rfl rfl) rfl rfl hl.1 rfl (lv_room (Nat.le_of_ble_eq_true rfl)) dX3_fade_52 ⟨Nat.le_of_ble_eq_true rfl, Nat.le_of_ble_eq_true rfl⟩) hS hP hD hA [2, 3, 4, 5, 6, 7] [0, 1] rfl rfl rfl (by decide) (fun u_52 H locs hw_52 hP hD hS => ?_)
      obtain ⟨sz2_52, f2_52, sf2_52⟩ := u_52
      have hP : va_P D vwCl [(r0, .inr (3, [.ref e0, .ref z0, .ref o0, .ref t0, .int qn])), (eo, .inl (cI, 40, .inl fo)), (o0, .inr (1, [.ref e0, .int on, .ref ow, .ref ov, .ref os, .int ol, .int om, .int ok])), (ow, .inr (2, [.ref owa, .int sz2_52])), (owa, .inl (cI, 40, .inl f2_52)), (os, .inl (cI, 11, .inl sf2_52)), (e0, .inr (0, [.ref eh, .ref eo, .ref ev, .ref er, .int el])), (eh, .inl (cI, 40, .inl g_47))] H := hP
      have hD : va_D A [(r0, .inr (3, [.ref e0, .ref z0, .ref o0, .ref t0, .int qn])), (eo, .inl (cI, 40, .inl fo)), (o0, .inr (1, [.ref e0, .int on, .ref ow, .ref ov, .ref os, .int ol, .int om, .int ok])), (ow, .inr (2, [.ref owa, .int sz2_52])), (owa, .inl (cI, 40, .inl f2_52)), (os, .inl (cI, 11, .inl sf2_52)), (e0, .inr (0, [.ref eh, .ref eo, .ref ev, .ref er, .int el])), (eh, .inl (cI, 40, .inl g_47))] := hD
      have hw_52 : (heaIs ol sz2_52 f2_52 sf2_52 lo n (va_up Hh eb x.toNat) (ins (ka lo (va_up Hh eb x.toNat)) (del L eb) eb)) := hw_52
      have v_52 := hw_52
      refine lv_aload_n hx hb dX3_fade_55 rfl (lv_at hl 0 rfl) ?_
      refine lv_iload_n hx hb dX3_fade_56 rfl (lv_at hl 3 rfl) ?_
      refine cr_i (va_runV (As := [.int x0]) (rest := []) ⟨hx, hb, hml, hown, hts⟩ (k_X1_bucketFor l D cI cZ cJ cK _ o0 x0 e0 on ow ov os ol om ok lo x.toNat (hlo) (hlo4) (hx2) (by omega)) (cwV 1 hts (gV qw343 qw270 qw271 qw12 qw272) rfl rfl rfl (by decide +kernel) ⟨Nat.le_of_ble_eq_true rfl, Nat.le_of_ble_eq_true rfl⟩) (pv (ci := 1) (r := (RX1, TX1, 8)) (q0 := 2) hP hD hK hT hZ hS [2] rfl rfl rfl rfl) rfl rfl hl.1 rfl (lv_room (Nat.le_of_ble_eq_true rfl)) dX3_fade_57 ⟨Nat.le_of_ble_eq_true rfl, Nat.le_of_ble_eq_true rfl⟩) hS hP (fun x_57 H locs hw_57 hP hS => ?_)
      have hw_57 : (x_57 = iI (↑(bk lo x.toNat))) := hw_57
      have v_57 := hw_57
      have hP9 := va_P_subm (ws' := [(r0, .inr (3, [.ref e0, .ref z0, .ref o0, .ref t0, .int qn])), (e0, .inr (0, [.ref eh, .ref eo, .ref ev, .ref er, .int el])), (eh, .inl (cI, 40, .inl g_47)), (eo, .inl (cI, 40, .inl fo)), (o0, .inr (1, [.ref e0, .int on, .ref ow, .ref ov, .ref os, .int ol, .int om, .int ok])), (ow, .inr (2, [.ref owa, .int sz2_52])), (owa, .inl (cI, 40, .inl f2_52)), (os, .inl (cI, 11, .inl sf2_52))]) hP [0, 6, 7, 1, 2, 3, 4, 5] rfl
      have hD9 := hD.sub (ws' := [(r0, .inr (3, [.ref e0, .ref z0, .ref o0, .ref t0, .int qn])), (e0, .inr (0, [.ref eh, .ref eo, .ref ev, .ref er, .int el])), (eh, .inl (cI, 40, .inl g_47)), (eo, .inl (cI, 40, .inl fo)), (o0, .inr (1, [.ref e0, .int on, .ref ow, .ref ov, .ref os, .int ol, .int om, .int ok])), (ow, .inr (2, [.ref owa, .int sz2_52])), (owa, .inl (cI, 40, .inl f2_52)), (os, .inl (cI, 11, .inl sf2_52))]) [0, 6, 7, 1, 2, 3, 4, 5] rfl rfl
      refine vx_ret ?_
      refine W.widen (k := 1) (n := 6) (by omega) (by omega) ?_
      exact W.iret (v := x_57) hx hb hr (fun t ht hW => ⟨⟨x_57, ⟨g_47, sz2_52, f2_52, sf2_52⟩, rfl, ⟨v_57, ⟨by omega, by omega⟩, hem2, v_52⟩, ⟨by rw [ht]; exact hP9, hD9⟩⟩, hS.F ht⟩) hS.2.2 dX3_fade_60
    · exact lz_throw (text := "the heat is not the low of the hearth to 1 less than it was") hx hb hl0 hown hts hT hZ hS (by rw [hml]; exact hl.1) (by decide +kernel) at_A (by decide +kernel) dX3_fade_26 dX3_fade_29 dX3_fade_30 dX3_fade_32 dX3_fade_35 (fun x hx9 => (hext x hx9).elim) (Nat.le_of_ble_eq_true rfl) (Nat.le_of_ble_eq_true rfl) (Nat.le_of_ble_eq_true rfl) (Nat.le_of_ble_eq_true rfl) hlocks (fun t hv1 h1 h2 => ⟨(), trivial, ⟨rfl, by omega⟩, va_F_grow hS h1 h2⟩) (fun z hz => (hS.2.2 z hz).elim) (by omega) (by omega)
set_option maxHeartbeats 4000000 in
set_option maxRecDepth 100000 in
theorem k_X3_quench_1 (l : Launch) (D : va_G) (cI cZ cJ cK : ClassId) (hz9 : Nat) (r0 : Nat) (y0 : Int32) (e0 : Nat) (z0 : Nat) (o0 : Nat) (t0 : Nat) (qn : Int32) (eh : Nat) (eo : Nat) (ev : Nat) (er : Nat) (el : Int32) (fh : Nat → Int32) (fo : Nat → Int32) (fr : Nat → Int32) (on : Int32) (ow : Nat) (ov : Nat) (os : Nat) (ol : Int32) (om : Int32) (ok : Int32) (owa : Nat) (osz : Int32) (of : Nat → Int32) (osf : Nat → Int32) (lo n : Nat) (Hh : Nat → Nat) (L : List Nat) (eb : Nat) (hem : embIs el fh n Hh) (hhe : heaIs ol osz of osf lo n Hh L) (hev : y0 = iI ↑eb) (hen : eb < n) (hfo : fo eb = iI (1)) (heL : eb ∈ L) : Met l yX3_quench (ws_ yX3_quench cX3_quench 4 (Option.some .int)) ({ frames := 3, cells := 0, slots := 0, locals := 73 }) (va_Pc [.ref r0, .int y0] (wPre D cI cZ cJ cK hz9 [(r0, .inr (3, [.ref e0, .ref z0, .ref o0, .ref t0, .int qn])), (e0, .inr (0, [.ref eh, .ref eo, .ref ev, .ref er, .int el])), (eh, .inl (cI, 40, .inl fh)), (eo, .inl (cI, 40, .inl fo)), (er, .inl (cZ, 40, .inl fr)), (o0, .inr (1, [.ref e0, .int on, .ref ow, .ref ov, .ref os, .int ol, .int om, .int ok])), (ow, .inr (2, [.ref owa, .int osz])), (owa, .inl (cI, 40, .inl of)), (os, .inl (cI, 11, .inl osf))])) (va_Qi (fun r (u : Int32 × (Nat → Int32) × (Nat → Int32) × Int32 × (Nat → Int32) × (Nat → Int32)) => (r = iI (↑(bk lo (Hh eb)))) ∧ (u.2.1 = upd fo eb (iI (-1))) ∧ (u.2.2.1 = upd fr eb (iI 0)) ∧ (u.1 = qn + 1) ∧ (heaIs ol u.2.2.2.1 u.2.2.2.2.1 u.2.2.2.2.2 lo n Hh (del L eb))) (fun (u : Int32 × (Nat → Int32) × (Nat → Int32) × Int32 × (Nat → Int32) × (Nat → Int32)) t => wPost D (va_A [(r0, .inr (3, [.ref e0, .ref z0, .ref o0, .ref t0, .int qn])), (e0, .inr (0, [.ref eh, .ref eo, .ref ev, .ref er, .int el])), (eh, .inl (cI, 40, .inl fh)), (eo, .inl (cI, 40, .inl fo)), (er, .inl (cZ, 40, .inl fr)), (o0, .inr (1, [.ref e0, .int on, .ref ow, .ref ov, .ref os, .int ol, .int om, .int ok])), (ow, .inr (2, [.ref owa, .int osz])), (owa, .inl (cI, 40, .inl of)), (os, .inl (cI, 11, .inl osf))] hz9) [(r0, .inr (3, [.ref e0, .ref z0, .ref o0, .ref t0, .int u.1])), (e0, .inr (0, [.ref eh, .ref eo, .ref ev, .ref er, .int el])), (eh, .inl (cI, 40, .inl fh)), (eo, .inl (cI, 40, .inl u.2.1)), (er, .inl (cZ, 40, .inl u.2.2.1)), (o0, .inr (1, [.ref e0, .int on, .ref ow, .ref ov, .ref os, .int ol, .int om, .int ok])), (ow, .inr (2, [.ref owa, .int u.2.2.2.1])), (owa, .inl (cI, 40, .inl u.2.2.2.2.1)), (os, .inl (cI, 11, .inl u.2.2.2.2.2))] t) (va_A [(r0, .inr (3, [.ref e0, .ref z0, .ref o0, .ref t0, .int qn])), (e0, .inr (0, [.ref eh, .ref eo, .ref ev, .ref er, .int el])), (eh, .inl (cI, 40, .inl fh)), (eo, .inl (cI, 40, .inl fo)), (er, .inl (cZ, 40, .inl fr)), (o0, .inr (1, [.ref e0, .int on, .ref ow, .ref ov, .ref os, .int ol, .int om, .int ok])), (ow, .inr (2, [.ref owa, .int osz])), (owa, .inl (cI, 40, .inl of)), (os, .inl (cI, 11, .inl osf))] hz9)) 0 0 (va_A [(r0, .inr (3, [.ref e0, .ref z0, .ref o0, .ref t0, .int qn])), (e0, .inr (0, [.ref eh, .ref eo, .ref ev, .ref er, .int el])), (eh, .inl (cI, 40, .inl fh)), (eo, .inl (cI, 40, .inl fo)), (er, .inl (cZ, 40, .inl fr)), (o0, .inr (1, [.ref e0, .int on, .ref ow, .ref ov, .ref os, .int ol, .int om, .int ok])), (ow, .inr (2, [.ref owa, .int osz])), (owa, .inl (cI, 40, .inl of)), (os, .inl (cI, 11, .inl osf))] hz9) := by
  refine Met.ofW (cc := cX3_quench) (maxL := 4) (ret := (Option.some .int)) (by decide) rfl ?_
  intro p e s m args below meth c s₁ hBd hml hv
  obtain ⟨rfl, hsz, hP, hD, hK, hT, hZ⟩ := hv
  have hx := hBd.exec
  have hb := hBd.bytes
  have hr := hBd.returns
  have hts : ∀ w ∈ lw_G, w.before _ s = true := fun w h => atoms_spec (ws := (ws_ yX3_quench cX3_quench 4 (Option.some .int))) hBd.pre w (List.mem_cons_of_mem _ h)
  have hown : s.vm.findClass RX3 = some m.cls := findClass_of_methodNamed hBd.named
  have hlocks := hBd.notSynchronized
  subst hsz
  have hD := hD.self (sz := s.heap.size)
  have hZA := hZ.own hP
  generalize hAe : va_A [(r0, .inr (3, [.ref e0, .ref z0, .ref o0, .ref t0, .int qn])), (e0, .inr (0, [.ref eh, .ref eo, .ref ev, .ref er, .int el])), (eh, .inl (cI, 40, .inl fh)), (eo, .inl (cI, 40, .inl fo)), (er, .inl (cZ, 40, .inl fr)), (o0, .inr (1, [.ref e0, .int on, .ref ow, .ref ov, .ref os, .int ol, .int om, .int ok])), (ow, .inr (2, [.ref owa, .int osz])), (owa, .inl (cI, 40, .inl of)), (os, .inl (cI, 11, .inl osf))] s.heap.size = A at hD hZA ⊢
  have hA : ∀ q : Nat, s.heap.size ≤ q → A q := fun q h => by rw [← hAe]; exact Or.inr h
  have hZ := hZA
  have hS : va_S A s.heap s.heap [] := va_S.rf
  have hl := lv_entry ([.ref r0, .int y0]) (n := 4) (Nat.le_of_ble_eq_true rfl)
  rw [lg_entry_eq]
  generalize (lg_sl ([.ref r0, .int y0]) ++ List.replicate (4 - (lg_sl ([.ref r0, .int y0])).length) Slot.unset).toArray = ls at hl ⊢
  have hl : lv_has ls 4 [(0, .ref r0), (1, .int y0)] := hl
  have hP : va_P D vwCl [(r0, .inr (3, [.ref e0, .ref z0, .ref o0, .ref t0, .int qn])), (e0, .inr (0, [.ref eh, .ref eo, .ref ev, .ref er, .int el])), (eh, .inl (cI, 40, .inl fh)), (eo, .inl (cI, 40, .inl fo)), (er, .inl (cZ, 40, .inl fr)), (o0, .inr (1, [.ref e0, .int on, .ref ow, .ref ov, .ref os, .int ol, .int om, .int ok])), (ow, .inr (2, [.ref owa, .int osz])), (owa, .inl (cI, 40, .inl of)), (os, .inl (cI, 11, .inl osf))] s.heap := hP
  obtain ⟨hn, hn4, hfh⟩ := id hem
  obtain ⟨hlo, hlo4, hrow, hsz, hLx⟩ := id hhe
  have hHe := (hfh eb hen).2
  refine lv_aload_n hx hb dX3_quench_0 rfl (lv_at hl 0 rfl) ?_
  refine lv_iload_n hx hb dX3_quench_1 rfl (lv_at hl 1 rfl) ?_
  refine cr_r (va_runV (As := [.int y0]) (rest := []) ⟨hx, hb, hml, hown, hts⟩ (k_X3_homeOfBurning_1 l D cI cZ cJ cK _ r0 y0 e0 z0 o0 t0 qn eh eo ev er el fo n eb (hn) (hn4) (hev.trans (congrArg iI (by omega))) (hen) (hfo)) (cwV 1 hts (gV qw535 qw537 qw8 qw10 qw538) rfl rfl rfl (by decide +kernel) ⟨Nat.le_of_ble_eq_true rfl, Nat.le_of_ble_eq_true rfl⟩) (pv (ci := 3) (r := (RX3, TX3, 5)) (q0 := 0) hP hD hK hT hZ hS [0, 1, 3] rfl rfl rfl rfl) rfl rfl hl.1 rfl (lv_room (Nat.le_of_ble_eq_true rfl)) dX3_quench_2 ⟨Nat.le_of_ble_eq_true rfl, Nat.le_of_ble_eq_true rfl⟩) hS hP (fun x_2 H locs hw_2 hP hS => ?_)
  have hw_2 : (x_2 = o0) := hw_2
  have v_2 := hw_2
  have v_2 := v_2.symm
  subst v_2
  refine lv_astore_n (lv' := [(2, .ref o0), (0, .ref r0), (1, .int y0)]) hx hb dX3_quench_5 rfl hl (by decide) rfl (fun ls hl => ?_)
  refine lv_aload_n hx hb dX3_quench_6 rfl (lv_at hl 0 rfl) ?_
  refine lv_aload_n hx hb dX3_quench_7 rfl (lv_at hl 1 rfl) ?_
  refine va_get (D := D) (ci := 3) (v := .ref e0) (C := RX3) (T := TX3) (N := 5) hx hb hts iX3 hown hK hP 0 rfl rfl 0 (by decide) (hts _ qw99) (fun _ h9 => h9) rfl dX3_quench_8 ?_
  refine lv_iload_n hx hb dX3_quench_11 rfl (lv_at hl 2 rfl) ?_
  refine cr_i (va_runV (As := [.int y0]) (rest := [.ref o0]) ⟨hx, hb, hml, hown, hts⟩ (k_X0_heatOf l D cI cZ cJ cK _ e0 y0 eh eo ev er el fh n eb (hn) (hn4) (hev.trans (congrArg iI (by omega))) (hen)) (cwV 1 hts (gV qw379 qw236 qw237 qw11 qw238) rfl rfl rfl (by decide +kernel) ⟨Nat.le_of_ble_eq_true rfl, Nat.le_of_ble_eq_true rfl⟩) (pv (ci := 0) (r := (RX0, TX0, 5)) (q0 := 1) hP hD hK hT hZ hS [1, 2] rfl rfl rfl rfl) rfl rfl hl.1 rfl (lv_room (Nat.le_of_ble_eq_true rfl)) dX3_quench_12 ⟨Nat.le_of_ble_eq_true rfl, Nat.le_of_ble_eq_true rfl⟩) hS hP (fun x_12 H locs hw_12 hP hS => ?_)
  have hw_12 : (x_12 = fh eb) := hw_12
  have v_12 := hw_12
  refine cr_i (va_runV (As := [.int x_12]) (rest := []) ⟨hx, hb, hml, hown, hts⟩ (k_X1_bucketFor l D cI cZ cJ cK _ o0 x_12 e0 on ow ov os ol om ok lo (Hh eb) (hlo) (hlo4) ((v_12.trans (hfh eb hen).1).trans (congrArg iI (by omega))) (hHe)) (cwV 1 hts (gV qw343 qw270 qw271 qw12 qw272) rfl rfl rfl (by decide +kernel) ⟨Nat.le_of_ble_eq_true rfl, Nat.le_of_ble_eq_true rfl⟩) (pv (ci := 1) (r := (RX1, TX1, 8)) (q0 := 5) hP hD hK hT hZ hS [5] rfl rfl rfl rfl) rfl rfl hl.1 rfl (lv_room (Nat.le_of_ble_eq_true rfl)) dX3_quench_15 ⟨Nat.le_of_ble_eq_true rfl, Nat.le_of_ble_eq_true rfl⟩) hS hP (fun x_15 H locs hw_15 hP hS => ?_)
  have hw_15 : (x_15 = iI (↑(bk lo (Hh eb)))) := hw_15
  have v_15 := hw_15
  refine lv_istore_n (lv' := [(3, .int x_15), (2, .ref o0), (0, .ref r0), (1, .int y0)]) hx hb dX3_quench_18 rfl hl (by decide) rfl (fun ls hl => ?_)
  refine lv_aload_n hx hb dX3_quench_19 rfl (lv_at hl 1 rfl) ?_
  refine lv_iload_n hx hb dX3_quench_20 rfl (lv_at hl 3 rfl) ?_
  refine cm_v (wr := [(r0, .inr (3, [.ref e0, .ref z0, .ref o0, .ref t0, .int qn])), (eo, .inl (cI, 40, .inl fo)), (er, .inl (cZ, 40, .inl fr))]) (va_runV (As := [.int y0]) (rest := []) ⟨hx, hb, hml, hown, hts⟩ (k_X1_takeOut l D cI cZ cJ cK _ o0 y0 e0 on ow ov os ol om ok owa osz of osf eh eo ev er el fh lo n eb Hh L (hem) (hhe) (hev.trans (congrArg iI (by omega))) (heL)) (cwV 1 hts (gV qw442 qw286 qw287 qw12 qw288) rfl rfl rfl (by decide +kernel) ⟨Nat.le_of_ble_eq_true rfl, Nat.le_of_ble_eq_true rfl⟩) (pv (ci := 1) (r := (RX1, TX1, 8)) (q0 := 5) hP hD hK hT hZ hS [5, 6, 7, 8, 1, 2] rfl rfl rfl rfl) rfl rfl hl.1 rfl (lv_room (Nat.le_of_ble_eq_true rfl)) dX3_quench_21 ⟨Nat.le_of_ble_eq_true rfl, Nat.le_of_ble_eq_true rfl⟩) hS hP hD hA [5, 6, 7, 8, 1, 2] [0, 3, 4] rfl rfl rfl (by decide) (fun u_21 H locs hw_21 hP hD hS => ?_)
  obtain ⟨sz2_21, f2_21, sf2_21⟩ := u_21
  have hP : va_P D vwCl [(r0, .inr (3, [.ref e0, .ref z0, .ref o0, .ref t0, .int qn])), (eo, .inl (cI, 40, .inl fo)), (er, .inl (cZ, 40, .inl fr)), (o0, .inr (1, [.ref e0, .int on, .ref ow, .ref ov, .ref os, .int ol, .int om, .int ok])), (ow, .inr (2, [.ref owa, .int sz2_21])), (owa, .inl (cI, 40, .inl f2_21)), (os, .inl (cI, 11, .inl sf2_21)), (e0, .inr (0, [.ref eh, .ref eo, .ref ev, .ref er, .int el])), (eh, .inl (cI, 40, .inl fh))] H := hP
  have hD : va_D A [(r0, .inr (3, [.ref e0, .ref z0, .ref o0, .ref t0, .int qn])), (eo, .inl (cI, 40, .inl fo)), (er, .inl (cZ, 40, .inl fr)), (o0, .inr (1, [.ref e0, .int on, .ref ow, .ref ov, .ref os, .int ol, .int om, .int ok])), (ow, .inr (2, [.ref owa, .int sz2_21])), (owa, .inl (cI, 40, .inl f2_21)), (os, .inl (cI, 11, .inl sf2_21)), (e0, .inr (0, [.ref eh, .ref eo, .ref ev, .ref er, .int el])), (eh, .inl (cI, 40, .inl fh))] := hD
  have hw_21 : (heaIs ol sz2_21 f2_21 sf2_21 lo n Hh (del L eb)) := hw_21
  have v_21 := hw_21
  refine lv_aload_n hx hb dX3_quench_24 rfl (lv_at hl 2 rfl) ?_
  refine va_get (D := D) (ci := 3) (v := .ref e0) (C := RX3) (T := TX3) (N := 5) hx hb hts iX3 hown hK hP 0 rfl rfl 0 (by decide) (hts _ qw99) (fun _ h9 => h9) rfl dX3_quench_25 ?_
  refine lv_iload_n hx hb dX3_quench_28 rfl (lv_at hl 3 rfl) ?_
  refine lz_iconst hx hb dX3_quench_29 (fun x_29 v_29 => ?_)
  refine cm_v (wr := [(r0, .inr (3, [.ref e0, .ref z0, .ref o0, .ref t0, .int qn])), (o0, .inr (1, [.ref e0, .int on, .ref ow, .ref ov, .ref os, .int ol, .int om, .int ok])), (ow, .inr (2, [.ref owa, .int sz2_21])), (owa, .inl (cI, 40, .inl f2_21)), (os, .inl (cI, 11, .inl sf2_21)), (eh, .inl (cI, 40, .inl fh))]) (va_runV (As := [.int y0, .int x_29]) (rest := []) ⟨hx, hb, hml, hown, hts⟩ (k_X0_goOut l D cI cZ cJ cK _ e0 y0 x_29 eh eo ev er el fo fr n eb 0 (hn) (hn4) (hev.trans (congrArg iI (by omega))) (hen) (v_29.trans (congrArg iI (by omega))) (Or.inl rfl)) (cwV 2 hts (gV qw297 qw298 qw299 qw11 qw300) rfl rfl rfl (by decide +kernel) ⟨Nat.le_of_ble_eq_true rfl, Nat.le_of_ble_eq_true rfl⟩) (pv (ci := 0) (r := (RX0, TX0, 5)) (q0 := 7) hP hD hK hT hZ hS [7, 1, 2] rfl rfl rfl rfl) rfl rfl hl.1 rfl (lv_room (Nat.le_of_ble_eq_true rfl)) dX3_quench_30 ⟨Nat.le_of_ble_eq_true rfl, Nat.le_of_ble_eq_true rfl⟩) hS hP hD hA [7, 1, 2] [0, 3, 4, 5, 6, 8] rfl rfl rfl (by decide) (fun u_30 H locs hw_30 hP hD hS => ?_)
  obtain ⟨g_30, g2_30⟩ := u_30
  have hP : va_P D vwCl [(r0, .inr (3, [.ref e0, .ref z0, .ref o0, .ref t0, .int qn])), (o0, .inr (1, [.ref e0, .int on, .ref ow, .ref ov, .ref os, .int ol, .int om, .int ok])), (ow, .inr (2, [.ref owa, .int sz2_21])), (owa, .inl (cI, 40, .inl f2_21)), (os, .inl (cI, 11, .inl sf2_21)), (eh, .inl (cI, 40, .inl fh)), (e0, .inr (0, [.ref eh, .ref eo, .ref ev, .ref er, .int el])), (eo, .inl (cI, 40, .inl g_30)), (er, .inl (cZ, 40, .inl g2_30))] H := hP
  have hD : va_D A [(r0, .inr (3, [.ref e0, .ref z0, .ref o0, .ref t0, .int qn])), (o0, .inr (1, [.ref e0, .int on, .ref ow, .ref ov, .ref os, .int ol, .int om, .int ok])), (ow, .inr (2, [.ref owa, .int sz2_21])), (owa, .inl (cI, 40, .inl f2_21)), (os, .inl (cI, 11, .inl sf2_21)), (eh, .inl (cI, 40, .inl fh)), (e0, .inr (0, [.ref eh, .ref eo, .ref ev, .ref er, .int el])), (eo, .inl (cI, 40, .inl g_30)), (er, .inl (cZ, 40, .inl g2_30))] := hD
  have hw_30 : (g_30 = upd fo eb (iI (-1))) ∧ (g2_30 = upd fr eb (iI 0)) := hw_30
  obtain ⟨v_30, w_30⟩ := hw_30
  refine lv_aload_n hx hb dX3_quench_33 rfl (lv_at hl 2 rfl) ?_
  refine lv_dup hx hb dX3_quench_34 rfl ?_
  refine va_get (D := D) (ci := 3) (v := .int qn) (C := RX3) (T := TX3) (N := 5) hx hb hts iX3 hown hK hP 0 rfl rfl 4 (by decide) (hts _ qw103) (fun _ h9 => h9) rfl dX3_quench_35 ?_
  refine lz_iconst hx hb dX3_quench_38 (fun x_38 v_38 => ?_)
  refine lv_iadd hx hb dX3_quench_39 ?_
  refine lv_topi (fun x_39 e_39 => ?_)
  refine va_put (D := D) (ci := 3) (v := .int x_39) (ty := .int) (C := RX3) (T := TX3) (N := 5) hx hb hts iX3 tyX3 tyX3_ok nmX3 hown hK hP hD hS 0 rfl rfl 4 (by decide) (hts _ qw103) (fun _ h9 => h9) rfl (by decide +kernel) rfl rfl (Nat.le_of_ble_eq_true rfl) dX3_quench_40 (fun H locs hP hD hS => ?_)
  have hP : va_P D vwCl [(r0, .inr (3, [.ref e0, .ref z0, .ref o0, .ref t0, .int x_39])), (o0, .inr (1, [.ref e0, .int on, .ref ow, .ref ov, .ref os, .int ol, .int om, .int ok])), (ow, .inr (2, [.ref owa, .int sz2_21])), (owa, .inl (cI, 40, .inl f2_21)), (os, .inl (cI, 11, .inl sf2_21)), (eh, .inl (cI, 40, .inl fh)), (e0, .inr (0, [.ref eh, .ref eo, .ref ev, .ref er, .int el])), (eo, .inl (cI, 40, .inl g_30)), (er, .inl (cZ, 40, .inl g2_30))] H := hP
  have hD : va_D A [(r0, .inr (3, [.ref e0, .ref z0, .ref o0, .ref t0, .int x_39])), (o0, .inr (1, [.ref e0, .int on, .ref ow, .ref ov, .ref os, .int ol, .int om, .int ok])), (ow, .inr (2, [.ref owa, .int sz2_21])), (owa, .inl (cI, 40, .inl f2_21)), (os, .inl (cI, 11, .inl sf2_21)), (eh, .inl (cI, 40, .inl fh)), (e0, .inr (0, [.ref eh, .ref eo, .ref ev, .ref er, .int el])), (eo, .inl (cI, 40, .inl g_30)), (er, .inl (cZ, 40, .inl g2_30))] := hD
  refine lv_iload_n hx hb dX3_quench_43 rfl (lv_at hl 0 rfl) ?_
  have hP9 := va_P_subm (ws' := [(r0, .inr (3, [.ref e0, .ref z0, .ref o0, .ref t0, .int x_39])), (e0, .inr (0, [.ref eh, .ref eo, .ref ev, .ref er, .int el])), (eh, .inl (cI, 40, .inl fh)), (eo, .inl (cI, 40, .inl g_30)), (er, .inl (cZ, 40, .inl g2_30)), (o0, .inr (1, [.ref e0, .int on, .ref ow, .ref ov, .ref os, .int ol, .int om, .int ok])), (ow, .inr (2, [.ref owa, .int sz2_21])), (owa, .inl (cI, 40, .inl f2_21)), (os, .inl (cI, 11, .inl sf2_21))]) hP [0, 6, 5, 7, 8, 1, 2, 3, 4] rfl
  have hD9 := hD.sub (ws' := [(r0, .inr (3, [.ref e0, .ref z0, .ref o0, .ref t0, .int x_39])), (e0, .inr (0, [.ref eh, .ref eo, .ref ev, .ref er, .int el])), (eh, .inl (cI, 40, .inl fh)), (eo, .inl (cI, 40, .inl g_30)), (er, .inl (cZ, 40, .inl g2_30)), (o0, .inr (1, [.ref e0, .int on, .ref ow, .ref ov, .ref os, .int ol, .int om, .int ok])), (ow, .inr (2, [.ref owa, .int sz2_21])), (owa, .inl (cI, 40, .inl f2_21)), (os, .inl (cI, 11, .inl sf2_21))]) [0, 6, 5, 7, 8, 1, 2, 3, 4] rfl rfl
  exact W.iret (v := x_15) hx hb hr (fun t ht hW => ⟨⟨x_15, ⟨x_39, g_30, g2_30, sz2_21, f2_21, sf2_21⟩, rfl, ⟨v_15, v_30, w_30, by rw [e_39, v_38]; rfl, v_21⟩, ⟨by rw [ht]; exact hP9, hD9⟩⟩, hS.F ht⟩) hS.2.2 dX3_quench_44
set_option maxHeartbeats 4000000 in
set_option maxRecDepth 100000 in
theorem k_X3_rake_1 (l : Launch) (hl0 : l.stackTraces = false) (D : va_G) (cI cZ cJ cK : ClassId) (hz9 : Nat) (r0 : Nat) (h0 : Int32) (e0 : Nat) (z0 : Nat) (o0 : Nat) (t0 : Nat) (qn : Int32) (eh : Nat) (eo : Nat) (ev : Nat) (er : Nat) (el : Int32) (fh : Nat → Int32) (fo : Nat → Int32) (fm : Nat → Int32) (fr : Nat → Int32) (on : Int32) (ow : Nat) (ov : Nat) (os : Nat) (ol : Int32) (om : Int32) (ok : Int32) (owa : Nat) (osz : Int32) (of : Nat → Int32) (ova : Nat) (osy : Int32) (og : Nat → Int32) (osf : Nat → Int32) (lo n : Nat) (Hh : Nat → Nat) (L : List Nat) (hem : embIs el fh n Hh) (hhe : heaIs ol osz of osf lo n Hh L) (hhv : h0 = iI (1)) (hok : heaOk lo Hh L) (hnt : on = iI 1) : vx_Met l yX3_rake (ws_ yX3_rake cX3_rake 4 (Option.some .int)) ({ frames := 6, cells := 1, slots := 6, locals := 120 }) (va_Pc [.ref r0, .int h0] (wPre D cI cZ cJ cK hz9 [(r0, .inr (3, [.ref e0, .ref z0, .ref o0, .ref t0, .int qn])), (e0, .inr (0, [.ref eh, .ref eo, .ref ev, .ref er, .int el])), (eh, .inl (cI, 40, .inl fh)), (eo, .inl (cI, 40, .inl fo)), (ev, .inl (cI, 40, .inl fm)), (er, .inl (cZ, 40, .inl fr)), (o0, .inr (1, [.ref e0, .int on, .ref ow, .ref ov, .ref os, .int ol, .int om, .int ok])), (ow, .inr (2, [.ref owa, .int osz])), (owa, .inl (cI, 40, .inl of)), (ov, .inr (2, [.ref ova, .int osy])), (ova, .inl (cI, 40, .inl og)), (os, .inl (cI, 11, .inl osf))])) (va_Qi (fun r (u : (Nat → Int32) × (Nat → Int32) × (Nat → Int32) × Int32 × Int32 × Int32 × Int32 × (Nat → Int32) × Int32 × (Nat → Int32) × (Nat → Int32)) => (r = iI (↑((rkL lo Hh L).headD 0))) ∧ (L ≠ []) ∧ (heaIs u.2.2.2.1 u.2.2.2.2.2.2.1 u.2.2.2.2.2.2.2.1 u.2.2.2.2.2.2.2.2.2.2 (rkLo lo Hh L) n Hh (rkL lo Hh L).tail) ∧ (u.2.2.2.2.1 = om + iI (↑(rkB lo Hh L).length)) ∧ (u.2.2.2.2.2.1 = ok + 1) ∧ (u.2.1 = mvA 1 fm (rkB lo Hh L)) ∧ (u.1 = upd fo ((rkL lo Hh L).headD 0) (iI (-1))) ∧ (u.2.2.1 = upd fr ((rkL lo Hh L).headD 0) (iI 1))) (fun (u : (Nat → Int32) × (Nat → Int32) × (Nat → Int32) × Int32 × Int32 × Int32 × Int32 × (Nat → Int32) × Int32 × (Nat → Int32) × (Nat → Int32)) t => wPost D (va_A [(r0, .inr (3, [.ref e0, .ref z0, .ref o0, .ref t0, .int qn])), (e0, .inr (0, [.ref eh, .ref eo, .ref ev, .ref er, .int el])), (eh, .inl (cI, 40, .inl fh)), (eo, .inl (cI, 40, .inl fo)), (ev, .inl (cI, 40, .inl fm)), (er, .inl (cZ, 40, .inl fr)), (o0, .inr (1, [.ref e0, .int on, .ref ow, .ref ov, .ref os, .int ol, .int om, .int ok])), (ow, .inr (2, [.ref owa, .int osz])), (owa, .inl (cI, 40, .inl of)), (ov, .inr (2, [.ref ova, .int osy])), (ova, .inl (cI, 40, .inl og)), (os, .inl (cI, 11, .inl osf))] hz9) [(r0, .inr (3, [.ref e0, .ref z0, .ref o0, .ref t0, .int qn])), (e0, .inr (0, [.ref eh, .ref eo, .ref ev, .ref er, .int el])), (eh, .inl (cI, 40, .inl fh)), (eo, .inl (cI, 40, .inl u.1)), (ev, .inl (cI, 40, .inl u.2.1)), (er, .inl (cZ, 40, .inl u.2.2.1)), (o0, .inr (1, [.ref e0, .int on, .ref ow, .ref ov, .ref os, .int u.2.2.2.1, .int u.2.2.2.2.1, .int u.2.2.2.2.2.1])), (ow, .inr (2, [.ref owa, .int u.2.2.2.2.2.2.1])), (owa, .inl (cI, 40, .inl u.2.2.2.2.2.2.2.1)), (ov, .inr (2, [.ref ova, .int u.2.2.2.2.2.2.2.2.1])), (ova, .inl (cI, 40, .inl u.2.2.2.2.2.2.2.2.2.1)), (os, .inl (cI, 11, .inl u.2.2.2.2.2.2.2.2.2.2))] t) (va_A [(r0, .inr (3, [.ref e0, .ref z0, .ref o0, .ref t0, .int qn])), (e0, .inr (0, [.ref eh, .ref eo, .ref ev, .ref er, .int el])), (eh, .inl (cI, 40, .inl fh)), (eo, .inl (cI, 40, .inl fo)), (ev, .inl (cI, 40, .inl fm)), (er, .inl (cZ, 40, .inl fr)), (o0, .inr (1, [.ref e0, .int on, .ref ow, .ref ov, .ref os, .int ol, .int om, .int ok])), (ow, .inr (2, [.ref owa, .int osz])), (owa, .inl (cI, 40, .inl of)), (ov, .inr (2, [.ref ova, .int osy])), (ova, .inl (cI, 40, .inl og)), (os, .inl (cI, 11, .inl osf))] hz9)) (vx_X (fun (_ : Unit) => True) (fun E _ _ => E = xS ∧ L = []) (fun _ => False)) 1 6 (va_A [(r0, .inr (3, [.ref e0, .ref z0, .ref o0, .ref t0, .int qn])), (e0, .inr (0, [.ref eh, .ref eo, .ref ev, .ref er, .int el])), (eh, .inl (cI, 40, .inl fh)), (eo, .inl (cI, 40, .inl fo)), (ev, .inl (cI, 40, .inl fm)), (er, .inl (cZ, 40, .inl fr)), (o0, .inr (1, [.ref e0, .int on, .ref ow, .ref ov, .ref os, .int ol, .int om, .int ok])), (ow, .inr (2, [.ref owa, .int osz])), (owa, .inl (cI, 40, .inl of)), (ov, .inr (2, [.ref ova, .int osy])), (ova, .inl (cI, 40, .inl og)), (os, .inl (cI, 11, .inl osf))] hz9) := by
  refine vx_ofW (cc := cX3_rake) (maxL := 4) (ret := (Option.some .int)) (by decide) rfl ?_
  intro p e s m args below meth c s₁ hBd hml hext hv
  obtain ⟨rfl, hsz, hP, hD, hK, hT, hZ⟩ := hv
  have hx := hBd.exec
  have hb := hBd.bytes
  have hr := hBd.returns
  have hts : ∀ w ∈ lw_G, w.before _ s = true := fun w h => atoms_spec (ws := (ws_ yX3_rake cX3_rake 4 (Option.some .int))) hBd.pre w (List.mem_cons_of_mem _ h)
  have hown : s.vm.findClass RX3 = some m.cls := findClass_of_methodNamed hBd.named
  have hlocks := hBd.notSynchronized
  subst hsz
  have hD := hD.self (sz := s.heap.size)
  have hZA := hZ.own hP
  generalize hAe : va_A [(r0, .inr (3, [.ref e0, .ref z0, .ref o0, .ref t0, .int qn])), (e0, .inr (0, [.ref eh, .ref eo, .ref ev, .ref er, .int el])), (eh, .inl (cI, 40, .inl fh)), (eo, .inl (cI, 40, .inl fo)), (ev, .inl (cI, 40, .inl fm)), (er, .inl (cZ, 40, .inl fr)), (o0, .inr (1, [.ref e0, .int on, .ref ow, .ref ov, .ref os, .int ol, .int om, .int ok])), (ow, .inr (2, [.ref owa, .int osz])), (owa, .inl (cI, 40, .inl of)), (ov, .inr (2, [.ref ova, .int osy])), (ova, .inl (cI, 40, .inl og)), (os, .inl (cI, 11, .inl osf))] s.heap.size = A at hD hZA ⊢
  have hA : ∀ q : Nat, s.heap.size ≤ q → A q := fun q h => by rw [← hAe]; exact Or.inr h
  have hS : va_S (fun _ => False) s.heap s.heap [] := va_S.rf
  have hl := lv_entry ([.ref r0, .int h0]) (n := 4) (Nat.le_of_ble_eq_true rfl)
  rw [lg_entry_eq]
  generalize (lg_sl ([.ref r0, .int h0]) ++ List.replicate (4 - (lg_sl ([.ref r0, .int h0])).length) Slot.unset).toArray = ls at hl ⊢
  have hl : lv_has ls 4 [(0, .ref r0), (1, .int h0)] := hl
  have hP : va_P D vwCl [(r0, .inr (3, [.ref e0, .ref z0, .ref o0, .ref t0, .int qn])), (e0, .inr (0, [.ref eh, .ref eo, .ref ev, .ref er, .int el])), (eh, .inl (cI, 40, .inl fh)), (eo, .inl (cI, 40, .inl fo)), (ev, .inl (cI, 40, .inl fm)), (er, .inl (cZ, 40, .inl fr)), (o0, .inr (1, [.ref e0, .int on, .ref ow, .ref ov, .ref os, .int ol, .int om, .int ok])), (ow, .inr (2, [.ref owa, .int osz])), (owa, .inl (cI, 40, .inl of)), (ov, .inr (2, [.ref ova, .int osy])), (ova, .inl (cI, 40, .inl og)), (os, .inl (cI, 11, .inl osf))] s.heap := hP
  obtain ⟨hn, hn4, hfh⟩ := id hem
  obtain ⟨hlo, hlo4, hrow, hsz, hLx⟩ := id hhe
  have hl4 := hrow.2.1
  refine lv_aload_n hx hb dX3_rake_0 rfl (lv_at hl 0 rfl) ?_
  refine lv_iload_n hx hb dX3_rake_1 rfl (lv_at hl 1 rfl) ?_
  refine cr_r (va_runV (As := [.int h0]) (rest := []) ⟨hx, hb, hml, hown, hts⟩ (k_X3_hearthOf_1 l D cI cZ cJ cK _ r0 h0 e0 z0 o0 t0 qn (hhv.trans (congrArg iI (by omega)))) (cwV 1 hts (gV qw119 qw121 qw0 qw10 qw122) rfl rfl rfl (by decide +kernel) ⟨Nat.le_of_ble_eq_true rfl, Nat.le_of_ble_eq_true rfl⟩) (pv (ci := 3) (r := (RX3, TX3, 5)) (q0 := 0) hP hD hK hT hZ hS [0] rfl rfl rfl rfl) rfl rfl hl.1 rfl (lv_room (Nat.le_of_ble_eq_true rfl)) dX3_rake_2 ⟨Nat.le_of_ble_eq_true rfl, Nat.le_of_ble_eq_true rfl⟩) hS hP (fun x_2 H locs hw_2 hP hS => ?_)
  have hw_2 : (x_2 = o0) := hw_2
  have v_2 := hw_2
  have v_2 := v_2.symm
  subst v_2
  refine lv_astore_n (lv' := [(2, .ref o0), (0, .ref r0), (1, .int h0)]) hx hb dX3_rake_5 rfl hl (by decide) rfl (fun ls hl => ?_)
  refine lv_aload_n hx hb dX3_rake_6 rfl (lv_at hl 0 rfl) ?_
  refine cr_i (va_runV (As := []) (rest := []) ⟨hx, hb, hml, hown, hts⟩ (k_X1_size l D cI cZ cJ cK _ o0 e0 on ow ov os ol om ok owa osz ) (cwV 0 hts (gV qw191 qw192 qw193 qw12 qw194) rfl rfl rfl (by decide +kernel) ⟨Nat.le_of_ble_eq_true rfl, Nat.le_of_ble_eq_true rfl⟩) (pv (ci := 1) (r := (RX1, TX1, 8)) (q0 := 6) hP hD hK hT hZ hS [6, 7] rfl rfl rfl rfl) rfl rfl hl.1 rfl (lv_room (Nat.le_of_ble_eq_true rfl)) dX3_rake_7 ⟨Nat.le_of_ble_eq_true rfl, Nat.le_of_ble_eq_true rfl⟩) hS hP (fun x_7 H locs hw_7 hP hS => ?_)
  have hw_7 : (x_7 = osz) := hw_7
  have v_7 := hw_7
  refine lz_if_ne (tgt := 23) hx hb (v_7.trans hrow.1) (by omega) dX3_rake_10 (by decide) (fun c_10 => ?_) (fun c_10 => ?_)
  · have hne : L ≠ [] := fun q => by rw [q] at c_10; exact c_10 rfl
    refine lv_aload_n hx hb dX3_rake_23 rfl (lv_at hl 0 rfl) ?_
    have hS := va_S.weak (A := A) hS
    have hZ := hZA
    refine cm_i (wr := [(r0, .inr (3, [.ref e0, .ref z0, .ref o0, .ref t0, .int qn])), (eo, .inl (cI, 40, .inl fo)), (er, .inl (cZ, 40, .inl fr))]) (va_runV (As := []) (rest := []) ⟨hx, hb, hml, hown, hts⟩ (k_X1_rakeOnce l D cI cZ cJ cK _ o0 e0 on ow ov os ol om ok owa osz of ova osy og osf eh eo ev er el fh fm 1 lo n Hh L (hem) (hhe) (hnt) (Or.inr rfl) (hok) (hne)) (cwV 0 hts (gV qw215 qw216 qw217 qw12 qw218) rfl rfl rfl (by decide +kernel) ⟨Nat.le_of_ble_eq_true rfl, Nat.le_of_ble_eq_true rfl⟩) (pv (ci := 1) (r := (RX1, TX1, 8)) (q0 := 6) hP hD hK hT hZ hS [6, 7, 8, 9, 10, 11, 1, 2, 4] rfl rfl rfl rfl) rfl rfl hl.1 rfl (lv_room (Nat.le_of_ble_eq_true rfl)) dX3_rake_24 ⟨Nat.le_of_ble_eq_true rfl, Nat.le_of_ble_eq_true rfl⟩) hS hP hD hA [6, 7, 8, 9, 10, 11, 1, 2, 4] [0, 3, 5] rfl rfl rfl (by decide) (fun x_24 u_24 H locs hw_24 hP hD hS => ?_)
    obtain ⟨lw2_24, mm2_24, rk2_24, sz2_24, f2_24, sy2_24, g2_24, sf2_24, fm2_24⟩ := u_24
    have hP : va_P D vwCl [(r0, .inr (3, [.ref e0, .ref z0, .ref o0, .ref t0, .int qn])), (eo, .inl (cI, 40, .inl fo)), (er, .inl (cZ, 40, .inl fr)), (o0, .inr (1, [.ref e0, .int on, .ref ow, .ref ov, .ref os, .int lw2_24, .int mm2_24, .int rk2_24])), (ow, .inr (2, [.ref owa, .int sz2_24])), (owa, .inl (cI, 40, .inl f2_24)), (ov, .inr (2, [.ref ova, .int sy2_24])), (ova, .inl (cI, 40, .inl g2_24)), (os, .inl (cI, 11, .inl sf2_24)), (e0, .inr (0, [.ref eh, .ref eo, .ref ev, .ref er, .int el])), (eh, .inl (cI, 40, .inl fh)), (ev, .inl (cI, 40, .inl fm2_24))] H := hP
    have hD : va_D A [(r0, .inr (3, [.ref e0, .ref z0, .ref o0, .ref t0, .int qn])), (eo, .inl (cI, 40, .inl fo)), (er, .inl (cZ, 40, .inl fr)), (o0, .inr (1, [.ref e0, .int on, .ref ow, .ref ov, .ref os, .int lw2_24, .int mm2_24, .int rk2_24])), (ow, .inr (2, [.ref owa, .int sz2_24])), (owa, .inl (cI, 40, .inl f2_24)), (ov, .inr (2, [.ref ova, .int sy2_24])), (ova, .inl (cI, 40, .inl g2_24)), (os, .inl (cI, 11, .inl sf2_24)), (e0, .inr (0, [.ref eh, .ref eo, .ref ev, .ref er, .int el])), (eh, .inl (cI, 40, .inl fh)), (ev, .inl (cI, 40, .inl fm2_24))] := hD
    have hw_24 : (x_24 = iI (↑((rkL lo Hh L).headD 0))) ∧ (heaIs lw2_24 sz2_24 f2_24 sf2_24 (rkLo lo Hh L) n Hh (rkL lo Hh L).tail) ∧ (mm2_24 = om + iI (↑(rkB lo Hh L).length)) ∧ (rk2_24 = ok + 1) ∧ (fm2_24 = mvA 1 fm (rkB lo Hh L)) := hw_24
    obtain ⟨v_24, h_24, m_24, k_24, q_24⟩ := hw_24
    refine lv_istore_n (lv' := [(3, .int x_24), (2, .ref o0), (0, .ref r0), (1, .int h0)]) hx hb dX3_rake_27 rfl hl (by decide) rfl (fun ls hl => ?_)
    have hxn : (rkL lo Hh L).headD 0 < n := hLx _ ((rkL_perm hok).mem_iff.mp (by rw [← headD_getD]; exact getD_in (rkL_ne hok hne).1))
    refine lv_aload_n hx hb dX3_rake_28 rfl (lv_at hl 2 rfl) ?_
    refine va_get (D := D) (ci := 3) (v := .ref e0) (C := RX3) (T := TX3) (N := 5) hx hb hts iX3 hown hK hP 0 rfl rfl 0 (by decide) (hts _ qw99) (fun _ h9 => h9) rfl dX3_rake_29 ?_
    refine lv_iload_n hx hb dX3_rake_32 rfl (lv_at hl 0 rfl) ?_
    refine lz_iconst hx hb dX3_rake_33 (fun x_33 v_33 => ?_)
    refine cm_v (wr := [(r0, .inr (3, [.ref e0, .ref z0, .ref o0, .ref t0, .int qn])), (o0, .inr (1, [.ref e0, .int on, .ref ow, .ref ov, .ref os, .int lw2_24, .int mm2_24, .int rk2_24])), (ow, .inr (2, [.ref owa, .int sz2_24])), (owa, .inl (cI, 40, .inl f2_24)), (ov, .inr (2, [.ref ova, .int sy2_24])), (ova, .inl (cI, 40, .inl g2_24)), (os, .inl (cI, 11, .inl sf2_24)), (eh, .inl (cI, 40, .inl fh)), (ev, .inl (cI, 40, .inl fm2_24))]) (va_runV (As := [.int x_24, .int x_33]) (rest := []) ⟨hx, hb, hml, hown, hts⟩ (k_X0_goOut l D cI cZ cJ cK _ e0 x_24 x_33 eh eo ev er el fo fr n ((rkL lo Hh L).headD 0) 1 (hn) (hn4) (v_24.trans (congrArg iI (by omega))) (hxn) (v_33.trans (congrArg iI (by omega))) (Or.inr rfl)) (cwV 2 hts (gV qw297 qw298 qw299 qw11 qw300) rfl rfl rfl (by decide +kernel) ⟨Nat.le_of_ble_eq_true rfl, Nat.le_of_ble_eq_true rfl⟩) (pv (ci := 0) (r := (RX0, TX0, 5)) (q0 := 9) hP hD hK hT hZ hS [9, 1, 2] rfl rfl rfl rfl) rfl rfl hl.1 rfl (lv_room (Nat.le_of_ble_eq_true rfl)) dX3_rake_34 ⟨Nat.le_of_ble_eq_true rfl, Nat.le_of_ble_eq_true rfl⟩) hS hP hD hA [9, 1, 2] [0, 3, 4, 5, 6, 7, 8, 10, 11] rfl rfl rfl (by decide) (fun u_34 H locs hw_34 hP hD hS => ?_)
    obtain ⟨g_34, g2_34⟩ := u_34
    have hP : va_P D vwCl [(r0, .inr (3, [.ref e0, .ref z0, .ref o0, .ref t0, .int qn])), (o0, .inr (1, [.ref e0, .int on, .ref ow, .ref ov, .ref os, .int lw2_24, .int mm2_24, .int rk2_24])), (ow, .inr (2, [.ref owa, .int sz2_24])), (owa, .inl (cI, 40, .inl f2_24)), (ov, .inr (2, [.ref ova, .int sy2_24])), (ova, .inl (cI, 40, .inl g2_24)), (os, .inl (cI, 11, .inl sf2_24)), (eh, .inl (cI, 40, .inl fh)), (ev, .inl (cI, 40, .inl fm2_24)), (e0, .inr (0, [.ref eh, .ref eo, .ref ev, .ref er, .int el])), (eo, .inl (cI, 40, .inl g_34)), (er, .inl (cZ, 40, .inl g2_34))] H := hP
    have hD : va_D A [(r0, .inr (3, [.ref e0, .ref z0, .ref o0, .ref t0, .int qn])), (o0, .inr (1, [.ref e0, .int on, .ref ow, .ref ov, .ref os, .int lw2_24, .int mm2_24, .int rk2_24])), (ow, .inr (2, [.ref owa, .int sz2_24])), (owa, .inl (cI, 40, .inl f2_24)), (ov, .inr (2, [.ref ova, .int sy2_24])), (ova, .inl (cI, 40, .inl g2_24)), (os, .inl (cI, 11, .inl sf2_24)), (eh, .inl (cI, 40, .inl fh)), (ev, .inl (cI, 40, .inl fm2_24)), (e0, .inr (0, [.ref eh, .ref eo, .ref ev, .ref er, .int el])), (eo, .inl (cI, 40, .inl g_34)), (er, .inl (cZ, 40, .inl g2_34))] := hD
    have hw_34 : (g_34 = upd fo ((rkL lo Hh L).headD 0) (iI (-1))) ∧ (g2_34 = upd fr ((rkL lo Hh L).headD 0) (iI 1)) := hw_34
    obtain ⟨v_34, w_34⟩ := hw_34
    refine lv_iload_n hx hb dX3_rake_37 rfl (lv_at hl 0 rfl) ?_
    have hP9 := va_P_subm (ws' := [(r0, .inr (3, [.ref e0, .ref z0, .ref o0, .ref t0, .int qn])), (e0, .inr (0, [.ref eh, .ref eo, .ref ev, .ref er, .int el])), (eh, .inl (cI, 40, .inl fh)), (eo, .inl (cI, 40, .inl g_34)), (ev, .inl (cI, 40, .inl fm2_24)), (er, .inl (cZ, 40, .inl g2_34)), (o0, .inr (1, [.ref e0, .int on, .ref ow, .ref ov, .ref os, .int lw2_24, .int mm2_24, .int rk2_24])), (ow, .inr (2, [.ref owa, .int sz2_24])), (owa, .inl (cI, 40, .inl f2_24)), (ov, .inr (2, [.ref ova, .int sy2_24])), (ova, .inl (cI, 40, .inl g2_24)), (os, .inl (cI, 11, .inl sf2_24))]) hP [0, 9, 7, 10, 8, 11, 1, 2, 3, 4, 5, 6] rfl
    have hD9 := hD.sub (ws' := [(r0, .inr (3, [.ref e0, .ref z0, .ref o0, .ref t0, .int qn])), (e0, .inr (0, [.ref eh, .ref eo, .ref ev, .ref er, .int el])), (eh, .inl (cI, 40, .inl fh)), (eo, .inl (cI, 40, .inl g_34)), (ev, .inl (cI, 40, .inl fm2_24)), (er, .inl (cZ, 40, .inl g2_34)), (o0, .inr (1, [.ref e0, .int on, .ref ow, .ref ov, .ref os, .int lw2_24, .int mm2_24, .int rk2_24])), (ow, .inr (2, [.ref owa, .int sz2_24])), (owa, .inl (cI, 40, .inl f2_24)), (ov, .inr (2, [.ref ova, .int sy2_24])), (ova, .inl (cI, 40, .inl g2_24)), (os, .inl (cI, 11, .inl sf2_24))]) [0, 9, 7, 10, 8, 11, 1, 2, 3, 4, 5, 6] rfl rfl
    refine vx_ret ?_
    refine W.widen (k := 1) (n := 6) (by omega) (by omega) ?_
    exact W.iret (v := x_24) hx hb hr (fun t ht hW => ⟨⟨x_24, ⟨g_34, fm2_24, g2_34, lw2_24, mm2_24, rk2_24, sz2_24, f2_24, sy2_24, g2_24, sf2_24⟩, rfl, ⟨v_24, hne, h_24, m_24, k_24, q_24, v_34, w_34⟩, ⟨by rw [ht]; exact hP9, hD9⟩⟩, hS.F ht⟩) hS.2.2 dX3_rake_38
  · exact lz_throw (text := "the hearth has no embers") hx hb hl0 hown hts hT hZ hS (by rw [hml]; exact hl.1) (by decide +kernel) at_S (by decide +kernel) dX3_rake_13 dX3_rake_16 dX3_rake_17 dX3_rake_19 dX3_rake_22 (fun x hx9 => (hext x hx9).elim) (Nat.le_of_ble_eq_true rfl) (Nat.le_of_ble_eq_true rfl) (Nat.le_of_ble_eq_true rfl) (Nat.le_of_ble_eq_true rfl) hlocks (fun t hv1 h1 h2 => ⟨(), trivial, ⟨rfl, List.length_eq_zero_iff.mp (by omega)⟩, va_F_grow hS h1 h2⟩) (fun z hz => (hS.2.2 z hz).elim) (by omega) (by omega)
set_option maxHeartbeats 4000000 in
set_option maxRecDepth 100000 in
theorem k_X3_raise_1 (l : Launch) (hl0 : l.stackTraces = false) (D : va_G) (cI cZ cJ cK : ClassId) (hz9 : Nat) (r0 : Nat) (h0 : Int32) (x0 : Int32) (e0 : Nat) (z0 : Nat) (o0 : Nat) (t0 : Nat) (qn : Int32) (eh : Nat) (eo : Nat) (ev : Nat) (er : Nat) (el : Int32) (fh : Nat → Int32) (fm : Nat → Int32) (on : Int32) (ow : Nat) (ov : Nat) (os : Nat) (ol : Int32) (om : Int32) (ok : Int32) (owa : Nat) (osz : Int32) (of : Nat → Int32) (ova : Nat) (osy : Int32) (og : Nat → Int32) (osf : Nat → Int32) (lo n : Nat) (Hh : Nat → Nat) (L : List Nat) (x : Int) (hem : embIs el fh n Hh) (hhe : heaIs ol osz of osf lo n Hh L) (hhv : h0 = iI (1)) (hxv : x0 = iI x) (hxr : -2147483648 ≤ x ∧ x < 2147483648) (hok : heaOk lo Hh L) (hnt : on = iI 1) : vx_Met l yX3_raise (ws_ yX3_raise cX3_raise 4 (Option.some .int)) ({ frames := 6, cells := 1, slots := 6, locals := 119 }) (va_Pc [.ref r0, .int h0, .int x0] (wPre D cI cZ cJ cK hz9 [(r0, .inr (3, [.ref e0, .ref z0, .ref o0, .ref t0, .int qn])), (e0, .inr (0, [.ref eh, .ref eo, .ref ev, .ref er, .int el])), (eh, .inl (cI, 40, .inl fh)), (ev, .inl (cI, 40, .inl fm)), (o0, .inr (1, [.ref e0, .int on, .ref ow, .ref ov, .ref os, .int ol, .int om, .int ok])), (ow, .inr (2, [.ref owa, .int osz])), (owa, .inl (cI, 40, .inl of)), (ov, .inr (2, [.ref ova, .int osy])), (ova, .inl (cI, 40, .inl og)), (os, .inl (cI, 11, .inl osf))])) (va_Qi (fun r (u : (Nat → Int32) × Int32 × Int32 × Int32 × (Nat → Int32) × Int32 × (Nat → Int32) × (Nat → Int32)) => (r = iI (if x = (↑lo : Int) then 0 else ↑L.length)) ∧ ((↑lo : Int) ≤ x ∧ x ≤ ↑(minL Hh L)) ∧ (heaIs u.2.1 u.2.2.2.1 u.2.2.2.2.1 u.2.2.2.2.2.2.2 x.toNat n Hh (if x = (↑lo : Int) then L else insA (ka x.toNat Hh) [] L)) ∧ (u.2.2.1 = om + iI (if x = (↑lo : Int) then 0 else ↑L.length)) ∧ (u.1 = if x = (↑lo : Int) then fm else mvA 1 fm L)) (fun (u : (Nat → Int32) × Int32 × Int32 × Int32 × (Nat → Int32) × Int32 × (Nat → Int32) × (Nat → Int32)) t => wPost D (va_A [(r0, .inr (3, [.ref e0, .ref z0, .ref o0, .ref t0, .int qn])), (e0, .inr (0, [.ref eh, .ref eo, .ref ev, .ref er, .int el])), (eh, .inl (cI, 40, .inl fh)), (ev, .inl (cI, 40, .inl fm)), (o0, .inr (1, [.ref e0, .int on, .ref ow, .ref ov, .ref os, .int ol, .int om, .int ok])), (ow, .inr (2, [.ref owa, .int osz])), (owa, .inl (cI, 40, .inl of)), (ov, .inr (2, [.ref ova, .int osy])), (ova, .inl (cI, 40, .inl og)), (os, .inl (cI, 11, .inl osf))] hz9) [(r0, .inr (3, [.ref e0, .ref z0, .ref o0, .ref t0, .int qn])), (e0, .inr (0, [.ref eh, .ref eo, .ref ev, .ref er, .int el])), (eh, .inl (cI, 40, .inl fh)), (ev, .inl (cI, 40, .inl u.1)), (o0, .inr (1, [.ref e0, .int on, .ref ow, .ref ov, .ref os, .int u.2.1, .int u.2.2.1, .int ok])), (ow, .inr (2, [.ref owa, .int u.2.2.2.1])), (owa, .inl (cI, 40, .inl u.2.2.2.2.1)), (ov, .inr (2, [.ref ova, .int u.2.2.2.2.2.1])), (ova, .inl (cI, 40, .inl u.2.2.2.2.2.2.1)), (os, .inl (cI, 11, .inl u.2.2.2.2.2.2.2))] t) (va_A [(r0, .inr (3, [.ref e0, .ref z0, .ref o0, .ref t0, .int qn])), (e0, .inr (0, [.ref eh, .ref eo, .ref ev, .ref er, .int el])), (eh, .inl (cI, 40, .inl fh)), (ev, .inl (cI, 40, .inl fm)), (o0, .inr (1, [.ref e0, .int on, .ref ow, .ref ov, .ref os, .int ol, .int om, .int ok])), (ow, .inr (2, [.ref owa, .int osz])), (owa, .inl (cI, 40, .inl of)), (ov, .inr (2, [.ref ova, .int osy])), (ova, .inl (cI, 40, .inl og)), (os, .inl (cI, 11, .inl osf))] hz9)) (vx_X (fun (_ : Unit) => True) (fun E _ _ => E = xA ∧ ¬ ((↑lo : Int) ≤ x ∧ x ≤ ↑(minL Hh L))) (fun _ => False)) 1 6 (va_A [(r0, .inr (3, [.ref e0, .ref z0, .ref o0, .ref t0, .int qn])), (e0, .inr (0, [.ref eh, .ref eo, .ref ev, .ref er, .int el])), (eh, .inl (cI, 40, .inl fh)), (ev, .inl (cI, 40, .inl fm)), (o0, .inr (1, [.ref e0, .int on, .ref ow, .ref ov, .ref os, .int ol, .int om, .int ok])), (ow, .inr (2, [.ref owa, .int osz])), (owa, .inl (cI, 40, .inl of)), (ov, .inr (2, [.ref ova, .int osy])), (ova, .inl (cI, 40, .inl og)), (os, .inl (cI, 11, .inl osf))] hz9) := by
  refine vx_ofW (cc := cX3_raise) (maxL := 4) (ret := (Option.some .int)) (by decide) rfl ?_
  intro p e s m args below meth c s₁ hBd hml hext hv
  obtain ⟨rfl, hsz, hP, hD, hK, hT, hZ⟩ := hv
  have hx := hBd.exec
  have hb := hBd.bytes
  have hr := hBd.returns
  have hts : ∀ w ∈ lw_G, w.before _ s = true := fun w h => atoms_spec (ws := (ws_ yX3_raise cX3_raise 4 (Option.some .int))) hBd.pre w (List.mem_cons_of_mem _ h)
  have hown : s.vm.findClass RX3 = some m.cls := findClass_of_methodNamed hBd.named
  have hlocks := hBd.notSynchronized
  subst hsz
  have hD := hD.self (sz := s.heap.size)
  have hZA := hZ.own hP
  generalize hAe : va_A [(r0, .inr (3, [.ref e0, .ref z0, .ref o0, .ref t0, .int qn])), (e0, .inr (0, [.ref eh, .ref eo, .ref ev, .ref er, .int el])), (eh, .inl (cI, 40, .inl fh)), (ev, .inl (cI, 40, .inl fm)), (o0, .inr (1, [.ref e0, .int on, .ref ow, .ref ov, .ref os, .int ol, .int om, .int ok])), (ow, .inr (2, [.ref owa, .int osz])), (owa, .inl (cI, 40, .inl of)), (ov, .inr (2, [.ref ova, .int osy])), (ova, .inl (cI, 40, .inl og)), (os, .inl (cI, 11, .inl osf))] s.heap.size = A at hD hZA ⊢
  have hA : ∀ q : Nat, s.heap.size ≤ q → A q := fun q h => by rw [← hAe]; exact Or.inr h
  have hS : va_S (fun _ => False) s.heap s.heap [] := va_S.rf
  have hl := lv_entry ([.ref r0, .int h0, .int x0]) (n := 4) (Nat.le_of_ble_eq_true rfl)
  rw [lg_entry_eq]
  generalize (lg_sl ([.ref r0, .int h0, .int x0]) ++ List.replicate (4 - (lg_sl ([.ref r0, .int h0, .int x0])).length) Slot.unset).toArray = ls at hl ⊢
  have hl : lv_has ls 4 [(0, .ref r0), (1, .int h0), (2, .int x0)] := hl
  have hP : va_P D vwCl [(r0, .inr (3, [.ref e0, .ref z0, .ref o0, .ref t0, .int qn])), (e0, .inr (0, [.ref eh, .ref eo, .ref ev, .ref er, .int el])), (eh, .inl (cI, 40, .inl fh)), (ev, .inl (cI, 40, .inl fm)), (o0, .inr (1, [.ref e0, .int on, .ref ow, .ref ov, .ref os, .int ol, .int om, .int ok])), (ow, .inr (2, [.ref owa, .int osz])), (owa, .inl (cI, 40, .inl of)), (ov, .inr (2, [.ref ova, .int osy])), (ova, .inl (cI, 40, .inl og)), (os, .inl (cI, 11, .inl osf))] s.heap := hP
  obtain ⟨hn, hn4, hfh⟩ := id hem
  obtain ⟨hlo, hlo4, hrow, hsz, hLx⟩ := id hhe
  have hmt := minL_top Hh L
  refine lv_aload_n hx hb dX3_raise_0 rfl (lv_at hl 0 rfl) ?_
  refine lv_iload_n hx hb dX3_raise_1 rfl (lv_at hl 1 rfl) ?_
  refine cr_r (va_runV (As := [.int h0]) (rest := []) ⟨hx, hb, hml, hown, hts⟩ (k_X3_hearthOf_1 l D cI cZ cJ cK _ r0 h0 e0 z0 o0 t0 qn (hhv.trans (congrArg iI (by omega)))) (cwV 1 hts (gV qw119 qw121 qw0 qw10 qw122) rfl rfl rfl (by decide +kernel) ⟨Nat.le_of_ble_eq_true rfl, Nat.le_of_ble_eq_true rfl⟩) (pv (ci := 3) (r := (RX3, TX3, 5)) (q0 := 0) hP hD hK hT hZ hS [0] rfl rfl rfl rfl) rfl rfl hl.1 rfl (lv_room (Nat.le_of_ble_eq_true rfl)) dX3_raise_2 ⟨Nat.le_of_ble_eq_true rfl, Nat.le_of_ble_eq_true rfl⟩) hS hP (fun x_2 H locs hw_2 hP hS => ?_)
  have hw_2 : (x_2 = o0) := hw_2
  have v_2 := hw_2
  have v_2 := v_2.symm
  subst v_2
  refine lv_astore_n (lv' := [(3, .ref o0), (0, .ref r0), (1, .int h0), (2, .int x0)]) hx hb dX3_raise_5 rfl hl (by decide) rfl (fun ls hl => ?_)
  refine lv_iload_n hx hb dX3_raise_6 rfl (lv_at hl 3 rfl) ?_
  refine lv_aload_n hx hb dX3_raise_7 rfl (lv_at hl 0 rfl) ?_
  refine cr_i (va_runV (As := []) (rest := [.int x0]) ⟨hx, hb, hml, hown, hts⟩ (k_X1_low l D cI cZ cJ cK _ o0 e0 on ow ov os ol om ok ) (cwV 0 hts (gV qw348 qw349 qw350 qw12 qw351) rfl rfl rfl (by decide +kernel) ⟨Nat.le_of_ble_eq_true rfl, Nat.le_of_ble_eq_true rfl⟩) (pv (ci := 1) (r := (RX1, TX1, 8)) (q0 := 4) hP hD hK hT hZ hS [4] rfl rfl rfl rfl) rfl rfl hl.1 rfl (lv_room (Nat.le_of_ble_eq_true rfl)) dX3_raise_8 ⟨Nat.le_of_ble_eq_true rfl, Nat.le_of_ble_eq_true rfl⟩) hS hP (fun x_8 H locs hw_8 hP hS => ?_)
  have hw_8 : (x_8 = ol) := hw_8
  have v_8 := hw_8
  refine lz_icmp_lt (tgt := 22) hx hb hxv (v_8.trans hlo) ⟨by omega, by omega⟩ dX3_raise_11 (by decide) (fun c_11 => ?_) (fun c_11 => ?_)
  · exact lz_throw (text := "the low can not become this") hx hb hl0 hown hts hT hZ hS (by rw [hml]; exact hl.1) (by decide +kernel) at_A (by decide +kernel) dX3_raise_22 dX3_raise_25 dX3_raise_26 dX3_raise_28 dX3_raise_31 (fun x hx9 => (hext x hx9).elim) (Nat.le_of_ble_eq_true rfl) (Nat.le_of_ble_eq_true rfl) (Nat.le_of_ble_eq_true rfl) (Nat.le_of_ble_eq_true rfl) hlocks (fun t hv1 h1 h2 => ⟨(), trivial, ⟨rfl, by omega⟩, va_F_grow hS h1 h2⟩) (fun z hz => (hS.2.2 z hz).elim) (by omega) (by omega)
  · refine lv_iload_n hx hb dX3_raise_14 rfl (lv_at hl 3 rfl) ?_
    refine lv_aload_n hx hb dX3_raise_15 rfl (lv_at hl 0 rfl) ?_
    refine cr_i (va_runV (As := []) (rest := [.int x0]) ⟨hx, hb, hml, hown, hts⟩ (k_X1_leastHeat_k l D cI cZ cJ cK _ o0 e0 on ow ov os ol om ok owa osz of osf eh eo ev er el fh lo n Hh L (hem) (hhe) (hok)) (cwV 0 hts (gV qw437 qw224 qw225 qw12 qw226) rfl rfl rfl (by decide +kernel) ⟨Nat.le_of_ble_eq_true rfl, Nat.le_of_ble_eq_true rfl⟩) (pv (ci := 1) (r := (RX1, TX1, 8)) (q0 := 4) hP hD hK hT hZ hS [4, 5, 6, 9, 1, 2] rfl rfl rfl rfl) rfl rfl hl.1 rfl (lv_room (Nat.le_of_ble_eq_true rfl)) dX3_raise_16 ⟨Nat.le_of_ble_eq_true rfl, Nat.le_of_ble_eq_true rfl⟩) hS hP (fun x_16 H locs hw_16 hP hS => ?_)
    have hw_16 : (x_16 = iI (↑(minL Hh L))) := hw_16
    have v_16 := hw_16
    refine lz_icmp_le (tgt := 32) hx hb hxv v_16 ⟨by omega, by omega⟩ dX3_raise_19 (by decide) (fun c_19 => ?_) (fun c_19 => ?_)
    · have hx2 : x0 = iI ↑x.toNat := hxv.trans (congrArg iI (by omega))
      refine lv_iload_n hx hb dX3_raise_32 rfl (lv_at hl 3 rfl) ?_
      refine lv_aload_n hx hb dX3_raise_33 rfl (lv_at hl 0 rfl) ?_
      refine cr_i (va_runV (As := []) (rest := [.int x0]) ⟨hx, hb, hml, hown, hts⟩ (k_X1_low l D cI cZ cJ cK _ o0 e0 on ow ov os ol om ok ) (cwV 0 hts (gV qw348 qw349 qw350 qw12 qw351) rfl rfl rfl (by decide +kernel) ⟨Nat.le_of_ble_eq_true rfl, Nat.le_of_ble_eq_true rfl⟩) (pv (ci := 1) (r := (RX1, TX1, 8)) (q0 := 4) hP hD hK hT hZ hS [4] rfl rfl rfl rfl) rfl rfl hl.1 rfl (lv_room (Nat.le_of_ble_eq_true rfl)) dX3_raise_34 ⟨Nat.le_of_ble_eq_true rfl, Nat.le_of_ble_eq_true rfl⟩) hS hP (fun x_34 H locs hw_34 hP hS => ?_)
      have hw_34 : (x_34 = ol) := hw_34
      have v_34 := hw_34
      refine lz_icmp_ne (tgt := 44) hx hb hxv (v_34.trans hlo) ⟨by omega, by omega⟩ dX3_raise_37 (by decide) (fun c_37 => ?_) (fun c_37 => ?_)
      · refine lv_aload_n hx hb dX3_raise_44 rfl (lv_at hl 0 rfl) ?_
        refine lv_iload_n hx hb dX3_raise_45 rfl (lv_at hl 3 rfl) ?_
        have hS := va_S.weak (A := A) hS
        have hZ := hZA
        refine cm_i (wr := [(r0, .inr (3, [.ref e0, .ref z0, .ref o0, .ref t0, .int qn]))]) (va_runV (As := [.int x0]) (rest := []) ⟨hx, hb, hml, hown, hts⟩ (k_X1_riseTo l D cI cZ cJ cK _ o0 x0 e0 on ow ov os ol om ok owa osz of ova osy og osf eh eo ev er el fh fm 1 lo n Hh L x.toNat (hem) (hhe) (hnt) (Or.inr rfl) (hx2) (by omega)) (cwV 1 hts (gV qw558 qw559 qw560 qw12 qw561) rfl rfl rfl (by decide +kernel) ⟨Nat.le_of_ble_eq_true rfl, Nat.le_of_ble_eq_true rfl⟩) (pv (ci := 1) (r := (RX1, TX1, 8)) (q0 := 4) hP hD hK hT hZ hS [4, 5, 6, 7, 8, 9, 1, 2, 3] rfl rfl rfl rfl) rfl rfl hl.1 rfl (lv_room (Nat.le_of_ble_eq_true rfl)) dX3_raise_46 ⟨Nat.le_of_ble_eq_true rfl, Nat.le_of_ble_eq_true rfl⟩) hS hP hD hA [4, 5, 6, 7, 8, 9, 1, 2, 3] [0] rfl rfl rfl (by decide) (fun x_46 u_46 H locs hw_46 hP hD hS => ?_)
        obtain ⟨mm2_46, sz2_46, f2_46, sy2_46, g2_46, sf2_46, fm2_46⟩ := u_46
        have hP : va_P D vwCl [(r0, .inr (3, [.ref e0, .ref z0, .ref o0, .ref t0, .int qn])), (o0, .inr (1, [.ref e0, .int on, .ref ow, .ref ov, .ref os, .int x0, .int mm2_46, .int ok])), (ow, .inr (2, [.ref owa, .int sz2_46])), (owa, .inl (cI, 40, .inl f2_46)), (ov, .inr (2, [.ref ova, .int sy2_46])), (ova, .inl (cI, 40, .inl g2_46)), (os, .inl (cI, 11, .inl sf2_46)), (e0, .inr (0, [.ref eh, .ref eo, .ref ev, .ref er, .int el])), (eh, .inl (cI, 40, .inl fh)), (ev, .inl (cI, 40, .inl fm2_46))] H := hP
        have hD : va_D A [(r0, .inr (3, [.ref e0, .ref z0, .ref o0, .ref t0, .int qn])), (o0, .inr (1, [.ref e0, .int on, .ref ow, .ref ov, .ref os, .int x0, .int mm2_46, .int ok])), (ow, .inr (2, [.ref owa, .int sz2_46])), (owa, .inl (cI, 40, .inl f2_46)), (ov, .inr (2, [.ref ova, .int sy2_46])), (ova, .inl (cI, 40, .inl g2_46)), (os, .inl (cI, 11, .inl sf2_46)), (e0, .inr (0, [.ref eh, .ref eo, .ref ev, .ref er, .int el])), (eh, .inl (cI, 40, .inl fh)), (ev, .inl (cI, 40, .inl fm2_46))] := hD
        have hw_46 : (x_46 = iI (↑L.length)) ∧ (heaIs x0 sz2_46 f2_46 sf2_46 x.toNat n Hh (insA (ka x.toNat Hh) [] L)) ∧ (mm2_46 = om + iI (↑L.length)) ∧ (fm2_46 = mvA 1 fm L) := hw_46
        obtain ⟨v_46, h_46, m_46, k_46⟩ := hw_46
        have hP9 := va_P_subm (ws' := [(r0, .inr (3, [.ref e0, .ref z0, .ref o0, .ref t0, .int qn])), (e0, .inr (0, [.ref eh, .ref eo, .ref ev, .ref er, .int el])), (eh, .inl (cI, 40, .inl fh)), (ev, .inl (cI, 40, .inl fm2_46)), (o0, .inr (1, [.ref e0, .int on, .ref ow, .ref ov, .ref os, .int x0, .int mm2_46, .int ok])), (ow, .inr (2, [.ref owa, .int sz2_46])), (owa, .inl (cI, 40, .inl f2_46)), (ov, .inr (2, [.ref ova, .int sy2_46])), (ova, .inl (cI, 40, .inl g2_46)), (os, .inl (cI, 11, .inl sf2_46))]) hP [0, 7, 8, 9, 1, 2, 3, 4, 5, 6] rfl
        have hD9 := hD.sub (ws' := [(r0, .inr (3, [.ref e0, .ref z0, .ref o0, .ref t0, .int qn])), (e0, .inr (0, [.ref eh, .ref eo, .ref ev, .ref er, .int el])), (eh, .inl (cI, 40, .inl fh)), (ev, .inl (cI, 40, .inl fm2_46)), (o0, .inr (1, [.ref e0, .int on, .ref ow, .ref ov, .ref os, .int x0, .int mm2_46, .int ok])), (ow, .inr (2, [.ref owa, .int sz2_46])), (owa, .inl (cI, 40, .inl f2_46)), (ov, .inr (2, [.ref ova, .int sy2_46])), (ova, .inl (cI, 40, .inl g2_46)), (os, .inl (cI, 11, .inl sf2_46))]) [0, 7, 8, 9, 1, 2, 3, 4, 5, 6] rfl rfl
        refine vx_ret ?_
        refine W.widen (k := 1) (n := 6) (by omega) (by omega) ?_
        exact W.iret (v := x_46) hx hb hr (fun t ht hW => ⟨⟨x_46, ⟨fm2_46, x0, mm2_46, sz2_46, f2_46, sy2_46, g2_46, sf2_46⟩, rfl, ⟨by first | exact v_40.trans (congrArg iI (if_pos c_37).symm) | exact v_46.trans (congrArg iI (if_neg c_37).symm), ⟨by omega, by omega⟩, by first | (rw [if_neg c_37]; exact h_46) | (rw [if_pos c_37, show x.toNat = lo by omega]; exact hhe), by first | (rw [if_neg c_37]; exact m_46) | (rw [if_pos c_37]; exact (iI_z _).symm), by first | (rw [if_neg c_37]; exact k_46) | (rw [if_pos c_37])⟩, ⟨by rw [ht]; exact hP9, hD9⟩⟩, hS.F ht⟩) hS.2.2 dX3_raise_49
      · refine lz_iconst hx hb dX3_raise_40 (fun x_40 v_40 => ?_)
        refine lv_goto (tgt := 49) hx hb dX3_raise_41 (by decide) ?_
        have hS := va_S.weak (A := A) hS
        have hZ := hZA
        have hP9 := va_P_subm (ws' := [(r0, .inr (3, [.ref e0, .ref z0, .ref o0, .ref t0, .int qn])), (e0, .inr (0, [.ref eh, .ref eo, .ref ev, .ref er, .int el])), (eh, .inl (cI, 40, .inl fh)), (ev, .inl (cI, 40, .inl fm)), (o0, .inr (1, [.ref e0, .int on, .ref ow, .ref ov, .ref os, .int ol, .int om, .int ok])), (ow, .inr (2, [.ref owa, .int osz])), (owa, .inl (cI, 40, .inl of)), (ov, .inr (2, [.ref ova, .int osy])), (ova, .inl (cI, 40, .inl og)), (os, .inl (cI, 11, .inl osf))]) hP [0, 1, 2, 3, 4, 5, 6, 7, 8, 9] rfl
        have hD9 := hD.sub (ws' := [(r0, .inr (3, [.ref e0, .ref z0, .ref o0, .ref t0, .int qn])), (e0, .inr (0, [.ref eh, .ref eo, .ref ev, .ref er, .int el])), (eh, .inl (cI, 40, .inl fh)), (ev, .inl (cI, 40, .inl fm)), (o0, .inr (1, [.ref e0, .int on, .ref ow, .ref ov, .ref os, .int ol, .int om, .int ok])), (ow, .inr (2, [.ref owa, .int osz])), (owa, .inl (cI, 40, .inl of)), (ov, .inr (2, [.ref ova, .int osy])), (ova, .inl (cI, 40, .inl og)), (os, .inl (cI, 11, .inl osf))]) [0, 1, 2, 3, 4, 5, 6, 7, 8, 9] rfl rfl
        refine vx_ret ?_
        refine W.widen (k := 1) (n := 6) (by omega) (by omega) ?_
        exact W.iret (v := x_40) hx hb hr (fun t ht hW => ⟨⟨x_40, ⟨fm, ol, om, osz, of, osy, og, osf⟩, rfl, ⟨by first | exact v_40.trans (congrArg iI (if_pos c_37).symm) | exact v_46.trans (congrArg iI (if_neg c_37).symm), ⟨by omega, by omega⟩, by first | (rw [if_neg c_37]; exact h_46) | (rw [if_pos c_37, show x.toNat = lo by omega]; exact hhe), by first | (rw [if_neg c_37]; exact m_46) | (rw [if_pos c_37]; exact (iI_z _).symm), by first | (rw [if_neg c_37]; exact k_46) | (rw [if_pos c_37])⟩, ⟨by rw [ht]; exact hP9, hD9⟩⟩, hS.F ht⟩) hS.2.2 dX3_raise_49
    · exact lz_throw (text := "the low can not become this") hx hb hl0 hown hts hT hZ hS (by rw [hml]; exact hl.1) (by decide +kernel) at_A (by decide +kernel) dX3_raise_22 dX3_raise_25 dX3_raise_26 dX3_raise_28 dX3_raise_31 (fun x hx9 => (hext x hx9).elim) (Nat.le_of_ble_eq_true rfl) (Nat.le_of_ble_eq_true rfl) (Nat.le_of_ble_eq_true rfl) (Nat.le_of_ble_eq_true rfl) hlocks (fun t hv1 h1 h2 => ⟨(), trivial, ⟨rfl, by omega⟩, va_F_grow hS h1 h2⟩) (fun z hz => (hS.2.2 z hz).elim) (by omega) (by omega)
set_option maxHeartbeats 4000000 in
set_option maxRecDepth 100000 in
theorem k_X3_highest_1 (l : Launch) (D : va_G) (cI cZ cJ cK : ClassId) (hz9 : Nat) (r0 : Nat) (h0 : Int32) (e0 : Nat) (z0 : Nat) (o0 : Nat) (t0 : Nat) (qn : Int32) (eh : Nat) (eo : Nat) (ev : Nat) (er : Nat) (el : Int32) (fh : Nat → Int32) (on : Int32) (ow : Nat) (ov : Nat) (os : Nat) (ol : Int32) (om : Int32) (ok : Int32) (owa : Nat) (osz : Int32) (of : Nat → Int32) (osf : Nat → Int32) (lo n : Nat) (Hh : Nat → Nat) (L : List Nat) (hem : embIs el fh n Hh) (hhe : heaIs ol osz of osf lo n Hh L) (hhv : h0 = iI (1)) (hok : heaOk lo Hh L) : Met l yX3_highest (ws_ yX3_highest cX3_highest 2 (Option.some .int)) ({ frames := 3, cells := 0, slots := 0, locals := 65 }) (va_Pc [.ref r0, .int h0] (wPre D cI cZ cJ cK hz9 [(r0, .inr (3, [.ref e0, .ref z0, .ref o0, .ref t0, .int qn])), (e0, .inr (0, [.ref eh, .ref eo, .ref ev, .ref er, .int el])), (eh, .inl (cI, 40, .inl fh)), (o0, .inr (1, [.ref e0, .int on, .ref ow, .ref ov, .ref os, .int ol, .int om, .int ok])), (ow, .inr (2, [.ref owa, .int osz])), (owa, .inl (cI, 40, .inl of)), (os, .inl (cI, 11, .inl osf))])) (va_Qi (fun r (_ : Unit) => (r = iI (↑(minL Hh L)))) (fun _ _ => True) (fun _ => False)) 0 0 (fun _ => False) := by
  refine Met.ofW (cc := cX3_highest) (maxL := 2) (ret := (Option.some .int)) (by decide) rfl ?_
  intro p e s m args below meth c s₁ hBd hml hv
  obtain ⟨rfl, hsz, hP, hD, hK, hT, hZ⟩ := hv
  have hx := hBd.exec
  have hb := hBd.bytes
  have hr := hBd.returns
  have hts : ∀ w ∈ lw_G, w.before _ s = true := fun w h => atoms_spec (ws := (ws_ yX3_highest cX3_highest 2 (Option.some .int))) hBd.pre w (List.mem_cons_of_mem _ h)
  have hown : s.vm.findClass RX3 = some m.cls := findClass_of_methodNamed hBd.named
  have hlocks := hBd.notSynchronized
  subst hsz
  have hS : va_S (fun _ => False) s.heap s.heap [] := va_S.rf
  have hl := lv_entry ([.ref r0, .int h0]) (n := 2) (Nat.le_of_ble_eq_true rfl)
  rw [lg_entry_eq]
  generalize (lg_sl ([.ref r0, .int h0]) ++ List.replicate (2 - (lg_sl ([.ref r0, .int h0])).length) Slot.unset).toArray = ls at hl ⊢
  have hl : lv_has ls 2 [(0, .ref r0), (1, .int h0)] := hl
  have hP : va_P D vwCl [(r0, .inr (3, [.ref e0, .ref z0, .ref o0, .ref t0, .int qn])), (e0, .inr (0, [.ref eh, .ref eo, .ref ev, .ref er, .int el])), (eh, .inl (cI, 40, .inl fh)), (o0, .inr (1, [.ref e0, .int on, .ref ow, .ref ov, .ref os, .int ol, .int om, .int ok])), (ow, .inr (2, [.ref owa, .int osz])), (owa, .inl (cI, 40, .inl of)), (os, .inl (cI, 11, .inl osf))] s.heap := hP
  refine lv_aload_n hx hb dX3_highest_0 rfl (lv_at hl 0 rfl) ?_
  refine lv_iload_n hx hb dX3_highest_1 rfl (lv_at hl 1 rfl) ?_
  refine cr_r (va_runV (As := [.int h0]) (rest := []) ⟨hx, hb, hml, hown, hts⟩ (k_X3_hearthOf_1 l D cI cZ cJ cK _ r0 h0 e0 z0 o0 t0 qn (hhv.trans (congrArg iI (by omega)))) (cwV 1 hts (gV qw119 qw121 qw0 qw10 qw122) rfl rfl rfl (by decide +kernel) ⟨Nat.le_of_ble_eq_true rfl, Nat.le_of_ble_eq_true rfl⟩) (pv (ci := 3) (r := (RX3, TX3, 5)) (q0 := 0) hP hD hK hT hZ hS [0] rfl rfl rfl rfl) rfl rfl hl.1 rfl (lv_room (Nat.le_of_ble_eq_true rfl)) dX3_highest_2 ⟨Nat.le_of_ble_eq_true rfl, Nat.le_of_ble_eq_true rfl⟩) hS hP (fun x_2 H locs hw_2 hP hS => ?_)
  have hw_2 : (x_2 = o0) := hw_2
  have v_2 := hw_2
  have v_2 := v_2.symm
  subst v_2
  refine cr_i (va_runV (As := []) (rest := []) ⟨hx, hb, hml, hown, hts⟩ (k_X1_leastHeat_k l D cI cZ cJ cK _ o0 e0 on ow ov os ol om ok owa osz of osf eh eo ev er el fh lo n Hh L (hem) (hhe) (hok)) (cwV 0 hts (gV qw437 qw224 qw225 qw12 qw226) rfl rfl rfl (by decide +kernel) ⟨Nat.le_of_ble_eq_true rfl, Nat.le_of_ble_eq_true rfl⟩) (pv (ci := 1) (r := (RX1, TX1, 8)) (q0 := 3) hP hD hK hT hZ hS [3, 4, 5, 6, 1, 2] rfl rfl rfl rfl) rfl rfl hl.1 rfl (lv_room (Nat.le_of_ble_eq_true rfl)) dX3_highest_5 ⟨Nat.le_of_ble_eq_true rfl, Nat.le_of_ble_eq_true rfl⟩) hS hP (fun x_5 H locs hw_5 hP hS => ?_)
  have hw_5 : (x_5 = iI (↑(minL Hh L))) := hw_5
  have v_5 := hw_5
  exact W.iret (v := x_5) hx hb hr (fun t ht hW => ⟨⟨x_5, (), rfl, v_5, trivial⟩, hS.F ht⟩) hS.2.2 dX3_highest_8
set_option maxHeartbeats 4000000 in
set_option maxRecDepth 100000 in
theorem k_X3_many_1 (l : Launch) (D : va_G) (cI cZ cJ cK : ClassId) (hz9 : Nat) (r0 : Nat) (h0 : Int32) (b0 : Int32) (e0 : Nat) (z0 : Nat) (o0 : Nat) (t0 : Nat) (qn : Int32) (on : Int32) (ow : Nat) (ov : Nat) (os : Nat) (ol : Int32) (om : Int32) (ok : Int32) (osf : Nat → Int32) (cn : Nat → Nat) (b : Int) (hhv : h0 = iI (1)) (hsz : szC osf cn) (hbv : b0 = iI b) (hbr : -2147483648 ≤ b ∧ b < 2147483648) (hbo : 0 ≤ b ∧ b < 11) : Met l yX3_many (ws_ yX3_many cX3_many 4 (Option.some .int)) ({ frames := 1, cells := 0, slots := 0, locals := 21 }) (va_Pc [.ref r0, .int h0, .int b0] (wPre D cI cZ cJ cK hz9 [(r0, .inr (3, [.ref e0, .ref z0, .ref o0, .ref t0, .int qn])), (o0, .inr (1, [.ref e0, .int on, .ref ow, .ref ov, .ref os, .int ol, .int om, .int ok])), (os, .inl (cI, 11, .inl osf))])) (va_Qi (fun r (_ : Unit) => (r = iI (↑(cn b.toNat)))) (fun _ _ => True) (fun _ => False)) 0 0 (fun _ => False) := by
  refine Met.ofW (cc := cX3_many) (maxL := 4) (ret := (Option.some .int)) (by decide) rfl ?_
  intro p e s m args below meth c s₁ hBd hml hv
  obtain ⟨rfl, hsz, hP, hD, hK, hT, hZ⟩ := hv
  have hx := hBd.exec
  have hb := hBd.bytes
  have hr := hBd.returns
  have hts : ∀ w ∈ lw_G, w.before _ s = true := fun w h => atoms_spec (ws := (ws_ yX3_many cX3_many 4 (Option.some .int))) hBd.pre w (List.mem_cons_of_mem _ h)
  have hown : s.vm.findClass RX3 = some m.cls := findClass_of_methodNamed hBd.named
  have hlocks := hBd.notSynchronized
  subst hsz
  have hS : va_S (fun _ => False) s.heap s.heap [] := va_S.rf
  have hl := lv_entry ([.ref r0, .int h0, .int b0]) (n := 4) (Nat.le_of_ble_eq_true rfl)
  rw [lg_entry_eq]
  generalize (lg_sl ([.ref r0, .int h0, .int b0]) ++ List.replicate (4 - (lg_sl ([.ref r0, .int h0, .int b0])).length) Slot.unset).toArray = ls at hl ⊢
  have hl : lv_has ls 4 [(0, .ref r0), (1, .int h0), (2, .int b0)] := hl
  have hP : va_P D vwCl [(r0, .inr (3, [.ref e0, .ref z0, .ref o0, .ref t0, .int qn])), (o0, .inr (1, [.ref e0, .int on, .ref ow, .ref ov, .ref os, .int ol, .int om, .int ok])), (os, .inl (cI, 11, .inl osf))] s.heap := hP
  have hb2 : b0 = iI ↑b.toNat := hbv.trans (congrArg iI (by omega))
  refine lv_aload_n hx hb dX3_many_0 rfl (lv_at hl 0 rfl) ?_
  refine lv_iload_n hx hb dX3_many_1 rfl (lv_at hl 1 rfl) ?_
  refine cr_r (va_runV (As := [.int h0]) (rest := []) ⟨hx, hb, hml, hown, hts⟩ (k_X3_hearthOf_1 l D cI cZ cJ cK _ r0 h0 e0 z0 o0 t0 qn (hhv.trans (congrArg iI (by omega)))) (cwV 1 hts (gV qw119 qw121 qw0 qw10 qw122) rfl rfl rfl (by decide +kernel) ⟨Nat.le_of_ble_eq_true rfl, Nat.le_of_ble_eq_true rfl⟩) (pv (ci := 3) (r := (RX3, TX3, 5)) (q0 := 0) hP hD hK hT hZ hS [0] rfl rfl rfl rfl) rfl rfl hl.1 rfl (lv_room (Nat.le_of_ble_eq_true rfl)) dX3_many_2 ⟨Nat.le_of_ble_eq_true rfl, Nat.le_of_ble_eq_true rfl⟩) hS hP (fun x_2 H locs hw_2 hP hS => ?_)
  have hw_2 : (x_2 = o0) := hw_2
  have v_2 := hw_2
  have v_2 := v_2.symm
  subst v_2
  refine lv_astore_n (lv' := [(3, .ref o0), (0, .ref r0), (1, .int h0), (2, .int b0)]) hx hb dX3_many_5 rfl hl (by decide) rfl (fun ls hl => ?_)
  refine lv_iload_n hx hb dX3_many_6 rfl (lv_at hl 3 rfl) ?_
  refine cr_v (va_runS (As := [.int b0]) (rest := []) ⟨hx, hb, hml, hown, hts⟩ (k_X3_refuseBucket l D cI cZ cJ cK _ b0 b.toNat (hb2) (by omega)) (va_cwS 1 hts (gS qw305 qw306 qw10 qw307) rfl rfl rfl (by decide +kernel) ⟨Nat.le_of_ble_eq_true rfl, Nat.le_of_ble_eq_true rfl⟩) (ps hP hD hK hT hZ hS [] rfl rfl) rfl rfl hl.1 rfl (lv_room (Nat.le_of_ble_eq_true rfl)) dX3_many_7 ⟨Nat.le_of_ble_eq_true rfl, Nat.le_of_ble_eq_true rfl⟩) hS hP (fun H locs hw_7 hP hS => ?_)
  refine lv_aload_n hx hb dX3_many_10 rfl (lv_at hl 0 rfl) ?_
  refine lv_iload_n hx hb dX3_many_11 rfl (lv_at hl 3 rfl) ?_
  refine cr_i (va_runV (As := [.int b0]) (rest := []) ⟨hx, hb, hml, hown, hts⟩ (k_X1_sizeOf l D cI cZ cJ cK _ o0 b0 e0 on ow ov os ol om ok osf cn (↑b.toNat) (hsz) (hb2) (by omega)) (cwV 1 hts (gV qw309 qw228 qw229 qw12 qw230) rfl rfl rfl (by decide +kernel) ⟨Nat.le_of_ble_eq_true rfl, Nat.le_of_ble_eq_true rfl⟩) (pv (ci := 1) (r := (RX1, TX1, 8)) (q0 := 1) hP hD hK hT hZ hS [1, 2] rfl rfl rfl rfl) rfl rfl hl.1 rfl (lv_room (Nat.le_of_ble_eq_true rfl)) dX3_many_12 ⟨Nat.le_of_ble_eq_true rfl, Nat.le_of_ble_eq_true rfl⟩) hS hP (fun x_12 H locs hw_12 hP hS => ?_)
  have hw_12 : (x_12 = iI (szA cn (↑b.toNat))) := hw_12
  have v_12 := hw_12
  exact W.iret (v := x_12) hx hb hr (fun t ht hW => ⟨⟨x_12, (), rfl, (v_12.trans (congrArg iI (szA_nat cn _))), trivial⟩, hS.F ht⟩) hS.2.2 dX3_many_15
set_option maxHeartbeats 4000000 in
set_option maxRecDepth 100000 in
theorem k_X3_many_b1 (l : Launch) (hl0 : l.stackTraces = false) (D : va_G) (cI cZ cJ cK : ClassId) (hz9 : Nat) (r0 : Nat) (h0 : Int32) (b0 : Int32) (e0 : Nat) (z0 : Nat) (o0 : Nat) (t0 : Nat) (qn : Int32) (b : Int) (hhv : h0 = iI (1)) (hbv : b0 = iI b) (hbr : -2147483648 ≤ b ∧ b < 2147483648) (hbo : ¬ (0 ≤ b ∧ b < 11)) : vx_Met l yX3_many (ws_ yX3_many cX3_many 4 (Option.some .int)) ({ frames := 7, cells := 1, slots := 6, locals := 102 }) (va_Pc [.ref r0, .int h0, .int b0] (wPre D cI cZ cJ cK hz9 [(r0, .inr (3, [.ref e0, .ref z0, .ref o0, .ref t0, .int qn]))])) (va_Qi (fun r (_ : Unit) => (False)) (fun _ _ => True) (fun _ => False)) (vx_X (fun (_ : Unit) => True) (fun E _ _ => E = xI) (fun _ => False)) 1 6 (fun _ => False) := by
  refine vx_ofW (cc := cX3_many) (maxL := 4) (ret := (Option.some .int)) (by decide) rfl ?_
  intro p e s m args below meth c s₁ hBd hml hext hv
  obtain ⟨rfl, hsz, hP, hD, hK, hT, hZ⟩ := hv
  have hx := hBd.exec
  have hb := hBd.bytes
  have hr := hBd.returns
  have hts : ∀ w ∈ lw_G, w.before _ s = true := fun w h => atoms_spec (ws := (ws_ yX3_many cX3_many 4 (Option.some .int))) hBd.pre w (List.mem_cons_of_mem _ h)
  have hown : s.vm.findClass RX3 = some m.cls := findClass_of_methodNamed hBd.named
  have hlocks := hBd.notSynchronized
  subst hsz
  have hS : va_S (fun _ => False) s.heap s.heap [] := va_S.rf
  have hl := lv_entry ([.ref r0, .int h0, .int b0]) (n := 4) (Nat.le_of_ble_eq_true rfl)
  rw [lg_entry_eq]
  generalize (lg_sl ([.ref r0, .int h0, .int b0]) ++ List.replicate (4 - (lg_sl ([.ref r0, .int h0, .int b0])).length) Slot.unset).toArray = ls at hl ⊢
  have hl : lv_has ls 4 [(0, .ref r0), (1, .int h0), (2, .int b0)] := hl
  have hP : va_P D vwCl [(r0, .inr (3, [.ref e0, .ref z0, .ref o0, .ref t0, .int qn]))] s.heap := hP
  refine lv_aload_n hx hb dX3_many_0 rfl (lv_at hl 0 rfl) ?_
  refine lv_iload_n hx hb dX3_many_1 rfl (lv_at hl 1 rfl) ?_
  refine cr_r (va_runV (As := [.int h0]) (rest := []) ⟨hx, hb, hml, hown, hts⟩ (k_X3_hearthOf_1 l D cI cZ cJ cK _ r0 h0 e0 z0 o0 t0 qn (hhv.trans (congrArg iI (by omega)))) (cwV 1 hts (gV qw119 qw121 qw0 qw10 qw122) rfl rfl rfl (by decide +kernel) ⟨Nat.le_of_ble_eq_true rfl, Nat.le_of_ble_eq_true rfl⟩) (pv (ci := 3) (r := (RX3, TX3, 5)) (q0 := 0) hP hD hK hT hZ hS [0] rfl rfl rfl rfl) rfl rfl hl.1 rfl (lv_room (Nat.le_of_ble_eq_true rfl)) dX3_many_2 ⟨Nat.le_of_ble_eq_true rfl, Nat.le_of_ble_eq_true rfl⟩) hS hP (fun x_2 H locs hw_2 hP hS => ?_)
  have hw_2 : (x_2 = o0) := hw_2
  have v_2 := hw_2
  have v_2 := v_2.symm
  subst v_2
  refine lv_astore_n (lv' := [(3, .ref o0), (0, .ref r0), (1, .int h0), (2, .int b0)]) hx hb dX3_many_5 rfl hl (by decide) rfl (fun ls hl => ?_)
  refine lv_iload_n hx hb dX3_many_6 rfl (lv_at hl 3 rfl) ?_
  refine cx_v (vx_runS (As := [.int b0]) (rest := []) ⟨hx, hb, hml, hown, hts⟩ (k_X3_refuseBucket_x l hl0 D cI cZ cJ cK _ b0 b (hbv) (hbr) (hbo)) (va_cwS 1 hts (gS qw305 qw306 qw10 qw307) rfl rfl rfl (by decide +kernel) ⟨Nat.le_of_ble_eq_true rfl, Nat.le_of_ble_eq_true rfl⟩) (ps hP hD hK hT hZ hS [] rfl rfl) rfl rfl hl.1 rfl (lv_room (Nat.le_of_ble_eq_true rfl)) dX3_many_7 ⟨Nat.le_of_ble_eq_true rfl, Nat.le_of_ble_eq_true rfl⟩) hS hP (fun E9 ce9 q9 H locs hE9 hP hS hq9 hv9 hc9 => ?_) (fun H locs hw_7 hP hS => ?_)
  · exact vx_out (fun x hx9 => (hext x hx9).elim) hlocks hq9 hv9 hc9 (fun t ht hW => ⟨(), trivial, hE9, hS.F ht⟩) (fun z hz => (hS.2.2 z hz).elim) (by omega) (by omega)
  refine id ?_
  exact hw_7.elim
set_option maxHeartbeats 4000000 in
set_option maxRecDepth 100000 in
theorem k_X3_lies_1 (l : Launch) (hl0 : l.stackTraces = false) (D : va_G) (cI cZ cJ cK : ClassId) (hz9 : Nat) (r0 : Nat) (h0 : Int32) (b0 : Int32) (k0 : Int32) (e0 : Nat) (z0 : Nat) (o0 : Nat) (t0 : Nat) (qn : Int32) (on : Int32) (ow : Nat) (ov : Nat) (os : Nat) (ol : Int32) (om : Int32) (ok : Int32) (owa : Nat) (osz : Int32) (of : Nat → Int32) (osf : Nat → Int32) (cn : Nat → Nat) (L : List Nat) (b k : Int) (hhv : h0 = iI (1)) (hrow : rowIs osz of L) (hsz : szC osf cn) (hps : psum cn 11 ≤ L.length) (hbv : b0 = iI b) (hbr : -2147483648 ≤ b ∧ b < 2147483648) (hkv : k0 = iI k) (hkr : -2147483648 ≤ k ∧ k < 2147483648) (hbo : 0 ≤ b ∧ b < 11) : vx_Met l yX3_lies (ws_ yX3_lies cX3_lies 5 (Option.some .int)) ({ frames := 6, cells := 1, slots := 6, locals := 82 }) (va_Pc [.ref r0, .int h0, .int b0, .int k0] (wPre D cI cZ cJ cK hz9 [(r0, .inr (3, [.ref e0, .ref z0, .ref o0, .ref t0, .int qn])), (o0, .inr (1, [.ref e0, .int on, .ref ow, .ref ov, .ref os, .int ol, .int om, .int ok])), (ow, .inr (2, [.ref owa, .int osz])), (owa, .inl (cI, 40, .inl of)), (os, .inl (cI, 11, .inl osf))])) (va_Qi (fun r (_ : Unit) => (r = iI (↑(L.getD (psum cn b.toNat + k.toNat) 0))) ∧ (0 ≤ k ∧ k < ↑(cn b.toNat))) (fun _ _ => True) (fun _ => False)) (vx_X (fun (_ : Unit) => True) (fun E _ _ => E = xI ∧ ¬ (0 ≤ k ∧ k < ↑(cn b.toNat))) (fun _ => False)) 1 6 (fun _ => False) := by
  refine vx_ofW (cc := cX3_lies) (maxL := 5) (ret := (Option.some .int)) (by decide) rfl ?_
  intro p e s m args below meth c s₁ hBd hml hext hv
  obtain ⟨rfl, hsz, hP, hD, hK, hT, hZ⟩ := hv
  have hx := hBd.exec
  have hb := hBd.bytes
  have hr := hBd.returns
  have hts : ∀ w ∈ lw_G, w.before _ s = true := fun w h => atoms_spec (ws := (ws_ yX3_lies cX3_lies 5 (Option.some .int))) hBd.pre w (List.mem_cons_of_mem _ h)
  have hown : s.vm.findClass RX3 = some m.cls := findClass_of_methodNamed hBd.named
  have hlocks := hBd.notSynchronized
  subst hsz
  have hS : va_S (fun _ => False) s.heap s.heap [] := va_S.rf
  have hl := lv_entry ([.ref r0, .int h0, .int b0, .int k0]) (n := 5) (Nat.le_of_ble_eq_true rfl)
  rw [lg_entry_eq]
  generalize (lg_sl ([.ref r0, .int h0, .int b0, .int k0]) ++ List.replicate (5 - (lg_sl ([.ref r0, .int h0, .int b0, .int k0])).length) Slot.unset).toArray = ls at hl ⊢
  have hl : lv_has ls 5 [(0, .ref r0), (1, .int h0), (2, .int b0), (3, .int k0)] := hl
  have hP : va_P D vwCl [(r0, .inr (3, [.ref e0, .ref z0, .ref o0, .ref t0, .int qn])), (o0, .inr (1, [.ref e0, .int on, .ref ow, .ref ov, .ref os, .int ol, .int om, .int ok])), (ow, .inr (2, [.ref owa, .int osz])), (owa, .inl (cI, 40, .inl of)), (os, .inl (cI, 11, .inl osf))] s.heap := hP
  have hb2 : b0 = iI ↑b.toNat := hbv.trans (congrArg iI (by omega))
  have hpc := psum_at cn (a := b.toNat) (b := 11) (by omega)
  have hp11 := hsz.2
  refine lv_aload_n hx hb dX3_lies_0 rfl (lv_at hl 0 rfl) ?_
  refine lv_iload_n hx hb dX3_lies_1 rfl (lv_at hl 1 rfl) ?_
  refine cr_r (va_runV (As := [.int h0]) (rest := []) ⟨hx, hb, hml, hown, hts⟩ (k_X3_hearthOf_1 l D cI cZ cJ cK _ r0 h0 e0 z0 o0 t0 qn (hhv.trans (congrArg iI (by omega)))) (cwV 1 hts (gV qw119 qw121 qw0 qw10 qw122) rfl rfl rfl (by decide +kernel) ⟨Nat.le_of_ble_eq_true rfl, Nat.le_of_ble_eq_true rfl⟩) (pv (ci := 3) (r := (RX3, TX3, 5)) (q0 := 0) hP hD hK hT hZ hS [0] rfl rfl rfl rfl) rfl rfl hl.1 rfl (lv_room (Nat.le_of_ble_eq_true rfl)) dX3_lies_2 ⟨Nat.le_of_ble_eq_true rfl, Nat.le_of_ble_eq_true rfl⟩) hS hP (fun x_2 H locs hw_2 hP hS => ?_)
  have hw_2 : (x_2 = o0) := hw_2
  have v_2 := hw_2
  have v_2 := v_2.symm
  subst v_2
  refine lv_astore (lv' := [(4, .ref o0), (0, .ref r0), (1, .int h0), (2, .int b0), (3, .int k0)]) hx hb dX3_lies_5 hl (by decide) rfl (fun ls hl => ?_)
  refine lv_iload_n hx hb dX3_lies_7 rfl (lv_at hl 3 rfl) ?_
  refine cr_v (va_runS (As := [.int b0]) (rest := []) ⟨hx, hb, hml, hown, hts⟩ (k_X3_refuseBucket l D cI cZ cJ cK _ b0 b.toNat (hb2) (by omega)) (va_cwS 1 hts (gS qw305 qw306 qw10 qw307) rfl rfl rfl (by decide +kernel) ⟨Nat.le_of_ble_eq_true rfl, Nat.le_of_ble_eq_true rfl⟩) (ps hP hD hK hT hZ hS [] rfl rfl) rfl rfl hl.1 rfl (lv_room (Nat.le_of_ble_eq_true rfl)) dX3_lies_8 ⟨Nat.le_of_ble_eq_true rfl, Nat.le_of_ble_eq_true rfl⟩) hS hP (fun H locs hw_8 hP hS => ?_)
  refine lv_iload_n hx hb dX3_lies_11 rfl (lv_at hl 4 rfl) ?_
  refine lz_if_lt (tgt := 25) hx hb hkv (by omega) dX3_lies_12 (by decide) (fun c_12 => ?_) (fun c_12 => ?_)
  · exact lz_throw (text := "the bucket has no such place") hx hb hl0 hown hts hT hZ hS (by rw [hml]; exact hl.1) (by decide +kernel) at_I (by decide +kernel) dX3_lies_25 dX3_lies_28 dX3_lies_29 dX3_lies_31 dX3_lies_34 (fun x hx9 => (hext x hx9).elim) (Nat.le_of_ble_eq_true rfl) (Nat.le_of_ble_eq_true rfl) (Nat.le_of_ble_eq_true rfl) (Nat.le_of_ble_eq_true rfl) hlocks (fun t hv1 h1 h2 => ⟨(), trivial, ⟨rfl, by omega⟩, va_F_grow hS h1 h2⟩) (fun z hz => (hS.2.2 z hz).elim) (by omega) (by omega)
  · refine lv_iload_n hx hb dX3_lies_15 rfl (lv_at hl 4 rfl) ?_
    refine lv_aload hx hb dX3_lies_16 (lv_at hl 0 rfl) ?_
    refine lv_iload_n hx hb dX3_lies_18 rfl (lv_at hl 3 rfl) ?_
    refine cr_i (va_runV (As := [.int b0]) (rest := [.int k0]) ⟨hx, hb, hml, hown, hts⟩ (k_X1_sizeOf l D cI cZ cJ cK _ o0 b0 e0 on ow ov os ol om ok osf cn (↑b.toNat) (hsz) (hb2) (by omega)) (cwV 1 hts (gV qw309 qw228 qw229 qw12 qw230) rfl rfl rfl (by decide +kernel) ⟨Nat.le_of_ble_eq_true rfl, Nat.le_of_ble_eq_true rfl⟩) (pv (ci := 1) (r := (RX1, TX1, 8)) (q0 := 1) hP hD hK hT hZ hS [1, 4] rfl rfl rfl rfl) rfl rfl hl.1 rfl (lv_room (Nat.le_of_ble_eq_true rfl)) dX3_lies_19 ⟨Nat.le_of_ble_eq_true rfl, Nat.le_of_ble_eq_true rfl⟩) hS hP (fun x_19 H locs hw_19 hP hS => ?_)
    have hw_19 : (x_19 = iI (szA cn (↑b.toNat))) := hw_19
    have v_19 := hw_19
    refine lz_icmp_lt (tgt := 35) hx hb hkv (v_19.trans (congrArg iI (szA_nat cn _))) ⟨by omega, by omega⟩ dX3_lies_22 (by decide) (fun c_22 => ?_) (fun c_22 => ?_)
    · refine lv_aload hx hb dX3_lies_35 (lv_at hl 0 rfl) ?_
      refine lv_iload_n hx hb dX3_lies_37 rfl (lv_at hl 3 rfl) ?_
      refine lv_iload_n hx hb dX3_lies_38 rfl (lv_at hl 4 rfl) ?_
      refine cr_i (va_runV (As := [.int b0, .int k0]) (rest := []) ⟨hx, hb, hml, hown, hts⟩ (k_X1_emberAt l D cI cZ cJ cK _ o0 b0 k0 e0 on ow ov os ol om ok owa osz of osf cn L b.toNat k.toNat (hrow) (hsz) (hb2) (hkv.trans (congrArg iI (by omega))) (by omega) (by omega) (hps)) (cwV 2 hts (gV qw315 qw316 qw317 qw12 qw318) rfl rfl rfl (by decide +kernel) ⟨Nat.le_of_ble_eq_true rfl, Nat.le_of_ble_eq_true rfl⟩) (pv (ci := 1) (r := (RX1, TX1, 8)) (q0 := 1) hP hD hK hT hZ hS [1, 2, 3, 4] rfl rfl rfl rfl) rfl rfl hl.1 rfl (lv_room (Nat.le_of_ble_eq_true rfl)) dX3_lies_39 ⟨Nat.le_of_ble_eq_true rfl, Nat.le_of_ble_eq_true rfl⟩) hS hP (fun x_39 H locs hw_39 hP hS => ?_)
      have hw_39 : (x_39 = iI (↑(L.getD (psum cn b.toNat + k.toNat) 0))) := hw_39
      have v_39 := hw_39
      refine vx_ret ?_
      refine W.widen (k := 1) (n := 6) (by omega) (by omega) ?_
      exact W.iret (v := x_39) hx hb hr (fun t ht hW => ⟨⟨x_39, (), rfl, ⟨v_39, ⟨by omega, by omega⟩⟩, trivial⟩, hS.F ht⟩) hS.2.2 dX3_lies_42
    · exact lz_throw (text := "the bucket has no such place") hx hb hl0 hown hts hT hZ hS (by rw [hml]; exact hl.1) (by decide +kernel) at_I (by decide +kernel) dX3_lies_25 dX3_lies_28 dX3_lies_29 dX3_lies_31 dX3_lies_34 (fun x hx9 => (hext x hx9).elim) (Nat.le_of_ble_eq_true rfl) (Nat.le_of_ble_eq_true rfl) (Nat.le_of_ble_eq_true rfl) (Nat.le_of_ble_eq_true rfl) hlocks (fun t hv1 h1 h2 => ⟨(), trivial, ⟨rfl, by omega⟩, va_F_grow hS h1 h2⟩) (fun z hz => (hS.2.2 z hz).elim) (by omega) (by omega)
set_option maxHeartbeats 4000000 in
set_option maxRecDepth 100000 in
theorem k_X3_lies_b1 (l : Launch) (hl0 : l.stackTraces = false) (D : va_G) (cI cZ cJ cK : ClassId) (hz9 : Nat) (r0 : Nat) (h0 : Int32) (b0 : Int32) (k0 : Int32) (e0 : Nat) (z0 : Nat) (o0 : Nat) (t0 : Nat) (qn : Int32) (b : Int) (hhv : h0 = iI (1)) (hbv : b0 = iI b) (hbr : -2147483648 ≤ b ∧ b < 2147483648) (hbo : ¬ (0 ≤ b ∧ b < 11)) : vx_Met l yX3_lies (ws_ yX3_lies cX3_lies 5 (Option.some .int)) ({ frames := 7, cells := 1, slots := 6, locals := 102 }) (va_Pc [.ref r0, .int h0, .int b0, .int k0] (wPre D cI cZ cJ cK hz9 [(r0, .inr (3, [.ref e0, .ref z0, .ref o0, .ref t0, .int qn]))])) (va_Qi (fun r (_ : Unit) => (False)) (fun _ _ => True) (fun _ => False)) (vx_X (fun (_ : Unit) => True) (fun E _ _ => E = xI) (fun _ => False)) 1 6 (fun _ => False) := by
  refine vx_ofW (cc := cX3_lies) (maxL := 5) (ret := (Option.some .int)) (by decide) rfl ?_
  intro p e s m args below meth c s₁ hBd hml hext hv
  obtain ⟨rfl, hsz, hP, hD, hK, hT, hZ⟩ := hv
  have hx := hBd.exec
  have hb := hBd.bytes
  have hr := hBd.returns
  have hts : ∀ w ∈ lw_G, w.before _ s = true := fun w h => atoms_spec (ws := (ws_ yX3_lies cX3_lies 5 (Option.some .int))) hBd.pre w (List.mem_cons_of_mem _ h)
  have hown : s.vm.findClass RX3 = some m.cls := findClass_of_methodNamed hBd.named
  have hlocks := hBd.notSynchronized
  subst hsz
  have hS : va_S (fun _ => False) s.heap s.heap [] := va_S.rf
  have hl := lv_entry ([.ref r0, .int h0, .int b0, .int k0]) (n := 5) (Nat.le_of_ble_eq_true rfl)
  rw [lg_entry_eq]
  generalize (lg_sl ([.ref r0, .int h0, .int b0, .int k0]) ++ List.replicate (5 - (lg_sl ([.ref r0, .int h0, .int b0, .int k0])).length) Slot.unset).toArray = ls at hl ⊢
  have hl : lv_has ls 5 [(0, .ref r0), (1, .int h0), (2, .int b0), (3, .int k0)] := hl
  have hP : va_P D vwCl [(r0, .inr (3, [.ref e0, .ref z0, .ref o0, .ref t0, .int qn]))] s.heap := hP
  refine lv_aload_n hx hb dX3_lies_0 rfl (lv_at hl 0 rfl) ?_
  refine lv_iload_n hx hb dX3_lies_1 rfl (lv_at hl 1 rfl) ?_
  refine cr_r (va_runV (As := [.int h0]) (rest := []) ⟨hx, hb, hml, hown, hts⟩ (k_X3_hearthOf_1 l D cI cZ cJ cK _ r0 h0 e0 z0 o0 t0 qn (hhv.trans (congrArg iI (by omega)))) (cwV 1 hts (gV qw119 qw121 qw0 qw10 qw122) rfl rfl rfl (by decide +kernel) ⟨Nat.le_of_ble_eq_true rfl, Nat.le_of_ble_eq_true rfl⟩) (pv (ci := 3) (r := (RX3, TX3, 5)) (q0 := 0) hP hD hK hT hZ hS [0] rfl rfl rfl rfl) rfl rfl hl.1 rfl (lv_room (Nat.le_of_ble_eq_true rfl)) dX3_lies_2 ⟨Nat.le_of_ble_eq_true rfl, Nat.le_of_ble_eq_true rfl⟩) hS hP (fun x_2 H locs hw_2 hP hS => ?_)
  have hw_2 : (x_2 = o0) := hw_2
  have v_2 := hw_2
  have v_2 := v_2.symm
  subst v_2
  refine lv_astore (lv' := [(4, .ref o0), (0, .ref r0), (1, .int h0), (2, .int b0), (3, .int k0)]) hx hb dX3_lies_5 hl (by decide) rfl (fun ls hl => ?_)
  refine lv_iload_n hx hb dX3_lies_7 rfl (lv_at hl 3 rfl) ?_
  refine cx_v (vx_runS (As := [.int b0]) (rest := []) ⟨hx, hb, hml, hown, hts⟩ (k_X3_refuseBucket_x l hl0 D cI cZ cJ cK _ b0 b (hbv) (hbr) (hbo)) (va_cwS 1 hts (gS qw305 qw306 qw10 qw307) rfl rfl rfl (by decide +kernel) ⟨Nat.le_of_ble_eq_true rfl, Nat.le_of_ble_eq_true rfl⟩) (ps hP hD hK hT hZ hS [] rfl rfl) rfl rfl hl.1 rfl (lv_room (Nat.le_of_ble_eq_true rfl)) dX3_lies_8 ⟨Nat.le_of_ble_eq_true rfl, Nat.le_of_ble_eq_true rfl⟩) hS hP (fun E9 ce9 q9 H locs hE9 hP hS hq9 hv9 hc9 => ?_) (fun H locs hw_8 hP hS => ?_)
  · exact vx_out (fun x hx9 => (hext x hx9).elim) hlocks hq9 hv9 hc9 (fun t ht hW => ⟨(), trivial, hE9, hS.F ht⟩) (fun z hz => (hS.2.2 z hz).elim) (by omega) (by omega)
  refine id ?_
  exact hw_8.elim
set_option maxHeartbeats 4000000 in
set_option maxRecDepth 100000 in
theorem k_X3_bucketOf_1 (l : Launch) (hl0 : l.stackTraces = false) (D : va_G) (cI cZ cJ cK : ClassId) (hz9 : Nat) (r0 : Nat) (h0 : Int32) (x0 : Int32) (e0 : Nat) (z0 : Nat) (o0 : Nat) (t0 : Nat) (qn : Int32) (on : Int32) (ow : Nat) (ov : Nat) (os : Nat) (ol : Int32) (om : Int32) (ok : Int32) (lo : Nat) (x : Int) (hhv : h0 = iI (1)) (hlo : ol = iI ↑lo) (hlo4 : lo < 1024) (hxv : x0 = iI x) (hxr : -2147483648 ≤ x ∧ x < 2147483648) : vx_Met l yX3_bucketOf (ws_ yX3_bucketOf cX3_bucketOf 4 (Option.some .int)) ({ frames := 6, cells := 1, slots := 6, locals := 82 }) (va_Pc [.ref r0, .int h0, .int x0] (wPre D cI cZ cJ cK hz9 [(r0, .inr (3, [.ref e0, .ref z0, .ref o0, .ref t0, .int qn])), (o0, .inr (1, [.ref e0, .int on, .ref ow, .ref ov, .ref os, .int ol, .int om, .int ok]))])) (va_Qi (fun r (_ : Unit) => (r = iI (↑(bk lo x.toNat))) ∧ ((↑lo : Int) ≤ x ∧ x ≤ 1023)) (fun _ _ => True) (fun _ => False)) (vx_X (fun (_ : Unit) => True) (fun E _ _ => E = xA ∧ ¬ ((↑lo : Int) ≤ x ∧ x ≤ 1023)) (fun _ => False)) 1 6 (fun _ => False) := by
  refine vx_ofW (cc := cX3_bucketOf) (maxL := 4) (ret := (Option.some .int)) (by decide) rfl ?_
  intro p e s m args below meth c s₁ hBd hml hext hv
  obtain ⟨rfl, hsz, hP, hD, hK, hT, hZ⟩ := hv
  have hx := hBd.exec
  have hb := hBd.bytes
  have hr := hBd.returns
  have hts : ∀ w ∈ lw_G, w.before _ s = true := fun w h => atoms_spec (ws := (ws_ yX3_bucketOf cX3_bucketOf 4 (Option.some .int))) hBd.pre w (List.mem_cons_of_mem _ h)
  have hown : s.vm.findClass RX3 = some m.cls := findClass_of_methodNamed hBd.named
  have hlocks := hBd.notSynchronized
  subst hsz
  have hS : va_S (fun _ => False) s.heap s.heap [] := va_S.rf
  have hl := lv_entry ([.ref r0, .int h0, .int x0]) (n := 4) (Nat.le_of_ble_eq_true rfl)
  rw [lg_entry_eq]
  generalize (lg_sl ([.ref r0, .int h0, .int x0]) ++ List.replicate (4 - (lg_sl ([.ref r0, .int h0, .int x0])).length) Slot.unset).toArray = ls at hl ⊢
  have hl : lv_has ls 4 [(0, .ref r0), (1, .int h0), (2, .int x0)] := hl
  have hP : va_P D vwCl [(r0, .inr (3, [.ref e0, .ref z0, .ref o0, .ref t0, .int qn])), (o0, .inr (1, [.ref e0, .int on, .ref ow, .ref ov, .ref os, .int ol, .int om, .int ok]))] s.heap := hP
  refine lv_aload_n hx hb dX3_bucketOf_0 rfl (lv_at hl 0 rfl) ?_
  refine lv_iload_n hx hb dX3_bucketOf_1 rfl (lv_at hl 1 rfl) ?_
  refine cr_r (va_runV (As := [.int h0]) (rest := []) ⟨hx, hb, hml, hown, hts⟩ (k_X3_hearthOf_1 l D cI cZ cJ cK _ r0 h0 e0 z0 o0 t0 qn (hhv.trans (congrArg iI (by omega)))) (cwV 1 hts (gV qw119 qw121 qw0 qw10 qw122) rfl rfl rfl (by decide +kernel) ⟨Nat.le_of_ble_eq_true rfl, Nat.le_of_ble_eq_true rfl⟩) (pv (ci := 3) (r := (RX3, TX3, 5)) (q0 := 0) hP hD hK hT hZ hS [0] rfl rfl rfl rfl) rfl rfl hl.1 rfl (lv_room (Nat.le_of_ble_eq_true rfl)) dX3_bucketOf_2 ⟨Nat.le_of_ble_eq_true rfl, Nat.le_of_ble_eq_true rfl⟩) hS hP (fun x_2 H locs hw_2 hP hS => ?_)
  have hw_2 : (x_2 = o0) := hw_2
  have v_2 := hw_2
  have v_2 := v_2.symm
  subst v_2
  refine lv_astore_n (lv' := [(3, .ref o0), (0, .ref r0), (1, .int h0), (2, .int x0)]) hx hb dX3_bucketOf_5 rfl hl (by decide) rfl (fun ls hl => ?_)
  refine lv_aload_n hx hb dX3_bucketOf_6 rfl (lv_at hl 0 rfl) ?_
  refine lv_iload_n hx hb dX3_bucketOf_7 rfl (lv_at hl 3 rfl) ?_
  refine cr_i (va_runV (As := [.int x0]) (rest := []) ⟨hx, hb, hml, hown, hts⟩ (k_X1_takesHeat l D cI cZ cJ cK _ o0 x0 e0 on ow ov os ol om ok lo x (hlo) (hlo4) (hxv) (hxr)) (cwV 1 hts (gV qw323 qw324 qw325 qw12 qw326) rfl rfl rfl (by decide +kernel) ⟨Nat.le_of_ble_eq_true rfl, Nat.le_of_ble_eq_true rfl⟩) (pv (ci := 1) (r := (RX1, TX1, 8)) (q0 := 1) hP hD hK hT hZ hS [1] rfl rfl rfl rfl) rfl rfl hl.1 rfl (lv_room (Nat.le_of_ble_eq_true rfl)) dX3_bucketOf_8 ⟨Nat.le_of_ble_eq_true rfl, Nat.le_of_ble_eq_true rfl⟩) hS hP (fun x_8 H locs hw_8 hP hS => ?_)
  have hw_8 : (x_8 = iI (if (↑lo : Int) ≤ x ∧ x ≤ 1023 then 1 else 0)) := hw_8
  have v_8 := hw_8
  refine lz_if_ne (tgt := 24) hx hb v_8 (by omega) dX3_bucketOf_11 (by decide) (fun c_11 => ?_) (fun c_11 => ?_)
  · refine lv_aload_n hx hb dX3_bucketOf_24 rfl (lv_at hl 0 rfl) ?_
    refine lv_iload_n hx hb dX3_bucketOf_25 rfl (lv_at hl 3 rfl) ?_
    refine cr_i (va_runV (As := [.int x0]) (rest := []) ⟨hx, hb, hml, hown, hts⟩ (k_X1_bucketFor l D cI cZ cJ cK _ o0 x0 e0 on ow ov os ol om ok lo x.toNat (hlo) (hlo4) (hxv.trans (congrArg iI (by omega))) (by omega)) (cwV 1 hts (gV qw343 qw270 qw271 qw12 qw272) rfl rfl rfl (by decide +kernel) ⟨Nat.le_of_ble_eq_true rfl, Nat.le_of_ble_eq_true rfl⟩) (pv (ci := 1) (r := (RX1, TX1, 8)) (q0 := 1) hP hD hK hT hZ hS [1] rfl rfl rfl rfl) rfl rfl hl.1 rfl (lv_room (Nat.le_of_ble_eq_true rfl)) dX3_bucketOf_26 ⟨Nat.le_of_ble_eq_true rfl, Nat.le_of_ble_eq_true rfl⟩) hS hP (fun x_26 H locs hw_26 hP hS => ?_)
    have hw_26 : (x_26 = iI (↑(bk lo x.toNat))) := hw_26
    have v_26 := hw_26
    refine vx_ret ?_
    refine W.widen (k := 1) (n := 6) (by omega) (by omega) ?_
    exact W.iret (v := x_26) hx hb hr (fun t ht hW => ⟨⟨x_26, (), rfl, ⟨v_26, ⟨by omega, by omega⟩⟩, trivial⟩, hS.F ht⟩) hS.2.2 dX3_bucketOf_29
  · exact lz_throw (text := "the heat is not the low of the hearth to 1023") hx hb hl0 hown hts hT hZ hS (by rw [hml]; exact hl.1) (by decide +kernel) at_A (by decide +kernel) dX3_bucketOf_14 dX3_bucketOf_17 dX3_bucketOf_18 dX3_bucketOf_20 dX3_bucketOf_23 (fun x hx9 => (hext x hx9).elim) (Nat.le_of_ble_eq_true rfl) (Nat.le_of_ble_eq_true rfl) (Nat.le_of_ble_eq_true rfl) (Nat.le_of_ble_eq_true rfl) hlocks (fun t hv1 h1 h2 => ⟨(), trivial, ⟨rfl, by omega⟩, va_F_grow hS h1 h2⟩) (fun z hz => (hS.2.2 z hz).elim) (by omega) (by omega)
