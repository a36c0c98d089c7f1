set_option maxHeartbeats 4000000 in
set_option maxRecDepth 100000 in
theorem k_X4_init (l : Launch) (D : va_G) (cI cZ cJ cK : ClassId) (hz9 : Nat) (t0 : Nat) (f : Nat → va_E) (Hh : Nat → Nat) (mv : Nat → Int32) (rv : Nat → Int)  : Met l yX4_init (ws_ yX4_init cX4_init 1 (Option.none : Option Jvm.ClassFile.FieldType)) ({ frames := 1, cells := 28, slots := 28, locals := 12 }) (va_Pc [.ref t0] (wPre D cI cZ cJ cK hz9 ([(t0, .inr (4, [.null, .null, .null, .null, .int 0, .int 0]))] ++ va_pl ([]) f))) (va_Qv (fun (u : Nat × Nat × Nat × Nat × List Nat × (Nat → va_E)) => (SimP cI cJ cK 0 Hh mv rv (fun _ => 0) (fun _ => 0) (fun _ _ => []) u.1 u.2.1 u.2.2.1 u.2.2.2.1 u.2.2.2.2.1 u.2.2.2.2.2)) (fun (u : Nat × Nat × Nat × Nat × List Nat × (Nat → va_E)) t => wPost D (va_A ([(t0, .inr (4, [.null, .null, .null, .null, .int 0, .int 0]))] ++ va_pl ([]) f) hz9) ([(t0, .inr (4, [.ref u.1, .ref u.2.1, .ref u.2.2.1, .ref u.2.2.2.1, .int 0, .int 0]))] ++ va_pl u.2.2.2.2.1 u.2.2.2.2.2) t) (va_A ([(t0, .inr (4, [.null, .null, .null, .null, .int 0, .int 0]))] ++ va_pl ([]) f) hz9)) 28 28 (va_A ([(t0, .inr (4, [.null, .null, .null, .null, .int 0, .int 0]))] ++ va_pl ([]) f) hz9) := by
  refine Met.ofW (cc := cX4_init) (maxL := 1) (ret := (Option.none : Option Jvm.ClassFile.FieldType)) (by decide) rfl ?_
  intro p e s m args below meth c s₁ hBd hml hv
  obtain ⟨rfl, hsz, hP, hD, hK, hT, hZ⟩ := hv
  have hx := hBd.exec
  have hb := hBd.bytes
  have hr := hBd.returns
  have hts : ∀ w ∈ lw_G, w.before _ s = true := fun w h => atoms_spec (ws := (ws_ yX4_init cX4_init 1 (Option.none : Option Jvm.ClassFile.FieldType))) hBd.pre w (List.mem_cons_of_mem _ h)
  have hown : s.vm.findClass RX4 = some m.cls := findClass_of_methodNamed hBd.named
  have hlocks := hBd.notSynchronized
  have hin : meth.name = "<init>" := (name_of_methodNamed hBd.named hBd.method).1
  subst hsz
  have hD := hD.self (sz := s.heap.size)
  have hZA := hZ.own hP
  generalize hAe : va_A ([(t0, .inr (4, [.null, .null, .null, .null, .int 0, .int 0]))] ++ va_pl ([]) f) s.heap.size = A at hD hZA ⊢
  have hA : ∀ q : Nat, s.heap.size ≤ q → A q := fun q h => by rw [← hAe]; exact Or.inr h
  have hZ := hZA
  have hS : va_S A s.heap s.heap [] := va_S.rf
  have hl := lv_entry ([.ref t0]) (n := 1) (Nat.le_of_ble_eq_true rfl)
  rw [lg_entry_eq]
  generalize (lg_sl ([.ref t0]) ++ List.replicate (1 - (lg_sl ([.ref t0])).length) Slot.unset).toArray = ls at hl ⊢
  have hl : lv_has ls 1 [(0, .ref t0)] := hl
  have hP : va_P D vwCl ([(t0, .inr (4, [.null, .null, .null, .null, .int 0, .int 0]))] ++ va_pl ([]) f) s.heap := hP
  refine lv_aload_n hx hb dX4_init_0 rfl (lv_at hl 0 rfl) ?_
  refine W.objInit hx hb hown (hts _ qw614) (hts _ qw29) (hts _ qw30) rfl (by rw [hml]; exact hl.1) rfl dX4_init_1 (Nat.le_of_ble_eq_true rfl) (Nat.le_of_ble_eq_true rfl) ?_
  refine W.eq (g2 := F0 m 4 ls []) rfl ?_
  refine lv_aload_n hx hb dX4_init_4 rfl (lv_at hl 0 rfl) ?_
  refine lz_iconst hx hb dX4_init_5 (fun x_5 v_5 => ?_)
  refine pl_new hx hb (hts _ qw53) 0 rfl hK hP hD hS hA v_5 (2) (by omega) (by omega) (Nat.le_of_ble_eq_true rfl) (Nat.le_of_ble_eq_true rfl) dX4_init_6 (fun n_6 H hq_6 hP hD hS => ?_)
  have hP : va_P D vwCl ([(t0, .inr (4, [.null, .null, .null, .null, .int 0, .int 0]))] ++ va_pl ([] ++ [n_6]) (va_up f n_6 (.inl (cI, 2, .inl (fun _ => 0))))) H := hP
  have hD : va_D A ([(t0, .inr (4, [.null, .null, .null, .null, .int 0, .int 0]))] ++ va_pl ([] ++ [n_6]) (va_up f n_6 (.inl (cI, 2, .inl (fun _ => 0))))) := hD
  refine va_put (D := D) (ci := 4) (v := .ref n_6) (ty := (.array .int)) (C := RX4) (T := TX4) (N := 6) hx hb hts iX4 tyX4 tyX4_ok nmX4 hown hK hP hD hS 0 rfl rfl 0 (by decide) (hts _ qw616) (fun _ h9 => h9) rfl (by decide +kernel) rfl rfl (Nat.le_of_ble_eq_true rfl) dX4_init_8 (fun H locs hP hD hS => ?_)
  have hP : va_P D vwCl ([(t0, .inr (4, [.ref n_6, .null, .null, .null, .int 0, .int 0]))] ++ va_pl ([] ++ [n_6]) (va_up f n_6 (.inl (cI, 2, .inl (fun _ => 0))))) H := hP
  have hD : va_D A ([(t0, .inr (4, [.ref n_6, .null, .null, .null, .int 0, .int 0]))] ++ va_pl ([] ++ [n_6]) (va_up f n_6 (.inl (cI, 2, .inl (fun _ => 0))))) := hD
  refine lv_aload_n hx hb dX4_init_11 rfl (lv_at hl 0 rfl) ?_
  refine lz_iconst hx hb dX4_init_12 (fun x_12 v_12 => ?_)
  refine pl_new hx hb (hts _ qw53) 0 rfl hK hP hD hS hA v_12 (2) (by omega) (by omega) (Nat.le_of_ble_eq_true rfl) (Nat.le_of_ble_eq_true rfl) dX4_init_13 (fun n_13 H hq_13 hP hD hS => ?_)
  have hP : va_P D vwCl ([(t0, .inr (4, [.ref n_6, .null, .null, .null, .int 0, .int 0]))] ++ va_pl (([] ++ [n_6]) ++ [n_13]) (va_up (va_up f n_6 (.inl (cI, 2, .inl (fun _ => 0)))) n_13 (.inl (cI, 2, .inl (fun _ => 0))))) H := hP
  have hD : va_D A ([(t0, .inr (4, [.ref n_6, .null, .null, .null, .int 0, .int 0]))] ++ va_pl (([] ++ [n_6]) ++ [n_13]) (va_up (va_up f n_6 (.inl (cI, 2, .inl (fun _ => 0)))) n_13 (.inl (cI, 2, .inl (fun _ => 0))))) := hD
  have hn_n_6_n_13 : n_6 ≠ n_13 := fun z => hq_13 (by rw [← z]; exact (List.mem_append_right _ List.mem_cons_self))
  refine va_put (D := D) (ci := 4) (v := .ref n_13) (ty := (.array .int)) (C := RX4) (T := TX4) (N := 6) hx hb hts iX4 tyX4 tyX4_ok nmX4 hown hK hP hD hS 0 rfl rfl 1 (by decide) (hts _ qw618) (fun _ h9 => h9) rfl (by decide +kernel) rfl rfl (Nat.le_of_ble_eq_true rfl) dX4_init_15 (fun H locs hP hD hS => ?_)
  have hP : va_P D vwCl ([(t0, .inr (4, [.ref n_6, .ref n_13, .null, .null, .int 0, .int 0]))] ++ va_pl (([] ++ [n_6]) ++ [n_13]) (va_up (va_up f n_6 (.inl (cI, 2, .inl (fun _ => 0)))) n_13 (.inl (cI, 2, .inl (fun _ => 0))))) H := hP
  have hD : va_D A ([(t0, .inr (4, [.ref n_6, .ref n_13, .null, .null, .int 0, .int 0]))] ++ va_pl (([] ++ [n_6]) ++ [n_13]) (va_up (va_up f n_6 (.inl (cI, 2, .inl (fun _ => 0)))) n_13 (.inl (cI, 2, .inl (fun _ => 0))))) := hD
  refine lv_aload_n hx hb dX4_init_18 rfl (lv_at hl 0 rfl) ?_
  refine lz_iconst hx hb dX4_init_19 (fun x_19 v_19 => ?_)
  refine pl_anew (t := (.array .int)) hx hb hown (hts _ qw566) rfl hT.2.2.2 3 rfl hK hP hD hS hA v_19 (2) (by omega) (by omega) (Nat.le_of_ble_eq_true rfl) (Nat.le_of_ble_eq_true rfl) dX4_init_20 (fun n_20 H hq_20 hP hD hS => ?_)
  have hP : va_P D vwCl ([(t0, .inr (4, [.ref n_6, .ref n_13, .null, .null, .int 0, .int 0]))] ++ va_pl ((([] ++ [n_6]) ++ [n_13]) ++ [n_20]) (va_up (va_up (va_up f n_6 (.inl (cI, 2, .inl (fun _ => 0)))) n_13 (.inl (cI, 2, .inl (fun _ => 0)))) n_20 (.inl (cK, 2, .inr (.inr (.inr (.inr (fun _ => none)))))))) H := hP
  have hD : va_D A ([(t0, .inr (4, [.ref n_6, .ref n_13, .null, .null, .int 0, .int 0]))] ++ va_pl ((([] ++ [n_6]) ++ [n_13]) ++ [n_20]) (va_up (va_up (va_up f n_6 (.inl (cI, 2, .inl (fun _ => 0)))) n_13 (.inl (cI, 2, .inl (fun _ => 0)))) n_20 (.inl (cK, 2, .inr (.inr (.inr (.inr (fun _ => none)))))))) := hD
  have hn_n_6_n_20 : n_6 ≠ n_20 := fun z => hq_20 (by rw [← z]; exact (List.mem_append_left _ (List.mem_append_right _ List.mem_cons_self)))
  have hn_n_13_n_20 : n_13 ≠ n_20 := fun z => hq_20 (by rw [← z]; exact (List.mem_append_right _ List.mem_cons_self))
  refine lv_dup hx hb dX4_init_23 rfl ?_
  refine lz_iconst hx hb dX4_init_24 (fun x_24 v_24 => ?_)
  refine lz_bipush hx hb (by decide) dX4_init_25 (fun x_25 v_25 => ?_)
  refine lz_iconst hx hb dX4_init_27 (fun x_27 v_27 => ?_)
  refine pl_mna hx hb hown (hts _ qw566) hT.2.2.1 (hts _ qw53) hK hP hD hS hA (Nat.le_of_ble_eq_true rfl) (Nat.le_of_ble_eq_true rfl) v_25 v_27 dX4_init_28 (fun n_28 r_28 L_28 f_28 g_28 H hx_28 hm_28 hq_28 hf_28 hr_28 hP hD hS => ?_)
  have hP : va_P D vwCl ([(t0, .inr (4, [.ref n_6, .ref n_13, .null, .null, .int 0, .int 0]))] ++ va_pl L_28 f_28) H := hP
  have hD : va_D A ([(t0, .inr (4, [.ref n_6, .ref n_13, .null, .null, .int 0, .int 0]))] ++ va_pl L_28 f_28) := hD
  refine pl_aast hx hb hK hP hD hS (hx_28 _ (List.mem_append_right _ List.mem_cons_self)).1 ((hx_28 _ (List.mem_append_right _ List.mem_cons_self)).2.trans (va_up_self _ _ _)) (pl_mem hm_28 hf_28) (comp_K hK hT) v_24 (0) (by omega) (by omega) (by omega) dX4_init_32 (fun f_32 H locs e_32 hP hD hS => ?_)
  have hP : va_P D vwCl ([(t0, .inr (4, [.ref n_6, .ref n_13, .null, .null, .int 0, .int 0]))] ++ va_pl L_28 (va_up f_28 n_20 (.inl (cK, 2, .inr (.inr (.inr (.inr f_32))))))) H := hP
  have hD : va_D A ([(t0, .inr (4, [.ref n_6, .ref n_13, .null, .null, .int 0, .int 0]))] ++ va_pl L_28 (va_up f_28 n_20 (.inl (cK, 2, .inr (.inr (.inr (.inr f_32))))))) := hD
  have nx_28 : n_28 ≠ n_20 := (ne_in (List.mem_append_right _ List.mem_cons_self) hq_28).symm
  refine lv_dup hx hb dX4_init_33 rfl ?_
  refine lz_iconst hx hb dX4_init_34 (fun x_34 v_34 => ?_)
  refine lz_bipush hx hb (by decide) dX4_init_35 (fun x_35 v_35 => ?_)
  refine lz_iconst hx hb dX4_init_37 (fun x_37 v_37 => ?_)
  refine pl_mna hx hb hown (hts _ qw566) hT.2.2.1 (hts _ qw53) hK hP hD hS hA (Nat.le_of_ble_eq_true rfl) (Nat.le_of_ble_eq_true rfl) v_35 v_37 dX4_init_38 (fun n_38 r_38 L_38 f_38 g_38 H hx_38 hm_38 hq_38 hf_38 hr_38 hP hD hS => ?_)
  have hP : va_P D vwCl ([(t0, .inr (4, [.ref n_6, .ref n_13, .null, .null, .int 0, .int 0]))] ++ va_pl L_38 f_38) H := hP
  have hD : va_D A ([(t0, .inr (4, [.ref n_6, .ref n_13, .null, .null, .int 0, .int 0]))] ++ va_pl L_38 f_38) := hD
  refine pl_aast hx hb hK hP hD hS (hx_38 _ (hx_28 _ (List.mem_append_right _ List.mem_cons_self)).1).1 ((hx_38 _ (hx_28 _ (List.mem_append_right _ List.mem_cons_self)).1).2.trans (va_up_self _ _ _)) (pl_mem hm_38 hf_38) (comp_K hK hT) v_34 (1) (by omega) (by omega) (by omega) dX4_init_42 (fun f_42 H locs e_42 hP hD hS => ?_)
  have hP : va_P D vwCl ([(t0, .inr (4, [.ref n_6, .ref n_13, .null, .null, .int 0, .int 0]))] ++ va_pl L_38 (va_up f_38 n_20 (.inl (cK, 2, .inr (.inr (.inr (.inr f_42))))))) H := hP
  have hD : va_D A ([(t0, .inr (4, [.ref n_6, .ref n_13, .null, .null, .int 0, .int 0]))] ++ va_pl L_38 (va_up f_38 n_20 (.inl (cK, 2, .inr (.inr (.inr (.inr f_42))))))) := hD
  have nx_38 : n_38 ≠ n_20 := (ne_in (hx_28 _ (List.mem_append_right _ List.mem_cons_self)).1 hq_38).symm
  refine va_put (D := D) (ci := 4) (v := .ref n_20) (ty := (.array (.array (.array .int)))) (C := RX4) (T := TX4) (N := 6) hx hb hts iX4 tyX4 tyX4_ok nmX4 hown hK hP hD hS 0 rfl rfl 2 (by decide) (hts _ qw619) (fun _ h9 => h9) rfl (by decide +kernel) rfl rfl (Nat.le_of_ble_eq_true rfl) dX4_init_43 (fun H locs hP hD hS => ?_)
  have hP : va_P D vwCl ([(t0, .inr (4, [.ref n_6, .ref n_13, .ref n_20, .null, .int 0, .int 0]))] ++ va_pl L_38 (va_up f_38 n_20 (.inl (cK, 2, .inr (.inr (.inr (.inr f_42))))))) H := hP
  have hD : va_D A ([(t0, .inr (4, [.ref n_6, .ref n_13, .ref n_20, .null, .int 0, .int 0]))] ++ va_pl L_38 (va_up f_38 n_20 (.inl (cK, 2, .inr (.inr (.inr (.inr f_42))))))) := hD
  refine lv_aload_n hx hb dX4_init_46 rfl (lv_at hl 0 rfl) ?_
  refine lz_iconst hx hb dX4_init_47 (fun x_47 v_47 => ?_)
  refine pl_anew (t := .int) hx hb hown (hts _ qw596) rfl hT.2.2.1 2 rfl hK hP hD hS hA v_47 (0) (by omega) (by omega) (Nat.le_of_ble_eq_true rfl) (Nat.le_of_ble_eq_true rfl) dX4_init_48 (fun n_48 H hq_48 hP hD hS => ?_)
  have hP : va_P D vwCl ([(t0, .inr (4, [.ref n_6, .ref n_13, .ref n_20, .null, .int 0, .int 0]))] ++ va_pl (L_38 ++ [n_48]) (va_up (va_up f_38 n_20 (.inl (cK, 2, .inr (.inr (.inr (.inr f_42)))))) n_48 (.inl (cJ, 0, .inr (.inr (.inr (.inr (fun _ => none)))))))) H := hP
  have hD : va_D A ([(t0, .inr (4, [.ref n_6, .ref n_13, .ref n_20, .null, .int 0, .int 0]))] ++ va_pl (L_38 ++ [n_48]) (va_up (va_up f_38 n_20 (.inl (cK, 2, .inr (.inr (.inr (.inr f_42)))))) n_48 (.inl (cJ, 0, .inr (.inr (.inr (.inr (fun _ => none)))))))) := hD
  have hn_n_20_n_48 : n_20 ≠ n_48 := fun z => hq_48 (by rw [← z]; exact (hx_38 _ (hx_28 _ (List.mem_append_right _ List.mem_cons_self)).1).1)
  have hn_n_6_n_48 : n_6 ≠ n_48 := fun z => hq_48 (by rw [← z]; exact (hx_38 _ (hx_28 _ (List.mem_append_left _ (List.mem_append_left _ (List.mem_append_right _ List.mem_cons_self)))).1).1)
  have hn_n_13_n_48 : n_13 ≠ n_48 := fun z => hq_48 (by rw [← z]; exact (hx_38 _ (hx_28 _ (List.mem_append_left _ (List.mem_append_right _ List.mem_cons_self))).1).1)
  have hn_n_28_n_48 : n_28 ≠ n_48 := fun z => hq_48 (by rw [← z]; exact (hx_38 _ hm_28).1)
  have hn_n_38_n_48 : n_38 ≠ n_48 := fun z => hq_48 (by rw [← z]; exact hm_38)
  refine va_put (D := D) (ci := 4) (v := .ref n_48) (ty := (.array (.array .int))) (C := RX4) (T := TX4) (N := 6) hx hb hts iX4 tyX4 tyX4_ok nmX4 hown hK hP hD hS 0 rfl rfl 3 (by decide) (hts _ qw620) (fun _ h9 => h9) rfl (by decide +kernel) rfl rfl (Nat.le_of_ble_eq_true rfl) dX4_init_51 (fun H locs hP hD hS => ?_)
  have hP : va_P D vwCl ([(t0, .inr (4, [.ref n_6, .ref n_13, .ref n_20, .ref n_48, .int 0, .int 0]))] ++ va_pl (L_38 ++ [n_48]) (va_up (va_up f_38 n_20 (.inl (cK, 2, .inr (.inr (.inr (.inr f_42)))))) n_48 (.inl (cJ, 0, .inr (.inr (.inr (.inr (fun _ => none)))))))) H := hP
  have hD : va_D A ([(t0, .inr (4, [.ref n_6, .ref n_13, .ref n_20, .ref n_48, .int 0, .int 0]))] ++ va_pl (L_38 ++ [n_48]) (va_up (va_up f_38 n_20 (.inl (cK, 2, .inr (.inr (.inr (.inr f_42)))))) n_48 (.inl (cJ, 0, .inr (.inr (.inr (.inr (fun _ => none)))))))) := hD
  have hr0 : ∀ i, i < 11 → g_28 i = some (r_28 i) ∧ r_28 i ∈ (L_38 ++ [n_48]) ∧ (∃ g : Nat → Int32, (va_up (va_up f_38 n_20 (.inl (cK, 2, .inr (.inr (.inr (.inr f_42)))))) n_48 (.inl (cJ, 0, .inr (.inr (.inr (.inr (fun _ => none))))))) (r_28 i) = .inl (cI, 0, .inl g)) ∧ n_6 ≠ r_28 i ∧ n_13 ≠ r_28 i ∧ n_20 ≠ r_28 i ∧ r_28 i ≠ n_48 ∧ r_28 i ≠ n_28 ∧ r_28 i ≠ n_38 := by
    intro i hi
    obtain ⟨w1, w2, w3, w4, g9, w5⟩ := hr_28 i hi
    have w6 := (hx_38 _ w2).1
    have z1 : r_28 i ≠ n_20 := (ne_in (List.mem_append_right _ List.mem_cons_self) w3).symm
    have z2 : r_28 i ≠ n_48 := ne_in w6 hq_48
    exact ⟨w1, List.mem_append_left _ w6, ⟨g9, (va_up_ne _ _ z2).trans ((va_up_ne _ _ z1).trans ((hx_38 _ w2).2.trans ((va_up_ne _ _ z1).trans w5)))⟩, ne_in (List.mem_append_left _ (List.mem_append_left _ (List.mem_append_right _ List.mem_cons_self))) w3, ne_in (List.mem_append_left _ (List.mem_append_right _ List.mem_cons_self)) w3, ne_in (List.mem_append_right _ List.mem_cons_self) w3, z2, w4, ne_in w2 hq_38⟩
  have hr1 : ∀ i, i < 11 → g_38 i = some (r_38 i) ∧ r_38 i ∈ (L_38 ++ [n_48]) ∧ (∃ g : Nat → Int32, (va_up (va_up f_38 n_20 (.inl (cK, 2, .inr (.inr (.inr (.inr f_42)))))) n_48 (.inl (cJ, 0, .inr (.inr (.inr (.inr (fun _ => none))))))) (r_38 i) = .inl (cI, 0, .inl g)) ∧ n_6 ≠ r_38 i ∧ n_13 ≠ r_38 i ∧ n_20 ≠ r_38 i ∧ r_38 i ≠ n_48 ∧ n_28 ≠ r_38 i ∧ r_38 i ≠ n_38 := by
    intro i hi
    obtain ⟨w1, w2, w3, w4, g9, w5⟩ := hr_38 i hi
    have z1 : r_38 i ≠ n_20 := (ne_in (hx_28 _ (List.mem_append_right _ List.mem_cons_self)).1 w3).symm
    have z2 : r_38 i ≠ n_48 := ne_in w2 hq_48
    exact ⟨w1, List.mem_append_left _ w2, ⟨g9, (va_up_ne _ _ z2).trans ((va_up_ne _ _ z1).trans w5)⟩, ne_in (hx_28 _ (List.mem_append_left _ (List.mem_append_left _ (List.mem_append_right _ List.mem_cons_self)))).1 w3, ne_in (hx_28 _ (List.mem_append_left _ (List.mem_append_right _ List.mem_cons_self))).1 w3, ne_in (hx_28 _ (List.mem_append_right _ List.mem_cons_self)).1 w3, z2, ne_in hm_28 w3, w4⟩
  have hSP : SimP cI cJ cK 0 Hh mv rv (fun _ => 0) (fun _ => 0) (fun _ _ => []) n_6 n_13 n_20 n_48 (L_38 ++ [n_48]) (va_up (va_up f_38 n_20 (.inl (cK, 2, .inr (.inr (.inr (.inr f_42)))))) n_48 (.inl (cJ, 0, .inr (.inr (.inr (.inr (fun _ => none))))))) := SimP_init (List.mem_append_left _ (hx_38 _ (hx_28 _ (List.mem_append_left _ (List.mem_append_left _ (List.mem_append_right _ List.mem_cons_self)))).1).1) ((va_up_ne _ _ hn_n_6_n_48).trans ((va_up_ne _ _ hn_n_6_n_20).trans ((hx_38 _ (hx_28 _ (List.mem_append_left _ (List.mem_append_left _ (List.mem_append_right _ List.mem_cons_self)))).1).2.trans ((va_up_ne _ _ hn_n_6_n_20).trans ((hx_28 _ (List.mem_append_left _ (List.mem_append_left _ (List.mem_append_right _ List.mem_cons_self)))).2.trans ((va_up_ne _ _ hn_n_6_n_20).trans ((va_up_ne _ _ hn_n_6_n_13).trans (va_up_self _ _ _)))))))) (List.mem_append_left _ (hx_38 _ (hx_28 _ (List.mem_append_left _ (List.mem_append_right _ List.mem_cons_self))).1).1) ((va_up_ne _ _ hn_n_13_n_48).trans ((va_up_ne _ _ hn_n_13_n_20).trans ((hx_38 _ (hx_28 _ (List.mem_append_left _ (List.mem_append_right _ List.mem_cons_self))).1).2.trans ((va_up_ne _ _ hn_n_13_n_20).trans ((hx_28 _ (List.mem_append_left _ (List.mem_append_right _ List.mem_cons_self))).2.trans ((va_up_ne _ _ hn_n_13_n_20).trans (va_up_self _ _ _))))))) (List.mem_append_left _ (hx_38 _ (hx_28 _ (List.mem_append_right _ List.mem_cons_self)).1).1) ((va_up_ne _ _ hn_n_20_n_48).trans (va_up_self _ _ _)) (by rw [e_42, va_up_ne _ _ (by omega), e_32]; exact va_up_self _ _ _) (by rw [e_42]; exact va_up_self _ _ _) (List.mem_append_right _ List.mem_cons_self) (va_up_self _ _ _) (List.mem_append_left _ (hx_38 _ hm_28).1) ((va_up_ne _ _ hn_n_28_n_48).trans ((va_up_ne _ _ nx_28).trans ((hx_38 _ hm_28).2.trans ((va_up_ne _ _ nx_28).trans hf_28)))) (List.mem_append_left _ hm_38) ((va_up_ne _ _ hn_n_38_n_48).trans ((va_up_ne _ _ nx_38).trans hf_38)) hn_n_6_n_13 hn_n_6_n_20 (ne_in (hx_38 _ (hx_28 _ (List.mem_append_left _ (List.mem_append_left _ (List.mem_append_right _ List.mem_cons_self)))).1).1 hq_48) (ne_in (List.mem_append_left _ (List.mem_append_left _ (List.mem_append_right _ List.mem_cons_self))) hq_28) (ne_in (hx_28 _ (List.mem_append_left _ (List.mem_append_left _ (List.mem_append_right _ List.mem_cons_self)))).1 hq_38) hn_n_13_n_20 (ne_in (hx_38 _ (hx_28 _ (List.mem_append_left _ (List.mem_append_right _ List.mem_cons_self))).1).1 hq_48) (ne_in (List.mem_append_left _ (List.mem_append_right _ List.mem_cons_self)) hq_28) (ne_in (hx_28 _ (List.mem_append_left _ (List.mem_append_right _ List.mem_cons_self))).1 hq_38) (ne_in (hx_38 _ (hx_28 _ (List.mem_append_right _ List.mem_cons_self)).1).1 hq_48) (ne_in (List.mem_append_right _ List.mem_cons_self) hq_28) (ne_in (hx_28 _ (List.mem_append_right _ List.mem_cons_self)).1 hq_38) (ne_in (hx_38 _ hm_28).1 hq_48) (ne_in hm_38 hq_48) (ne_in hm_28 hq_38) hr0 hr1
  have hP9 := hP
  have hD9 := hD
  refine W.widen (k := 28) (n := 28) (by omega) (by omega) ?_
  exact W.vret hx hb hr (fun t ht hW => ⟨⟨⟨n_6, n_13, n_20, n_48, (L_38 ++ [n_48]), (va_up (va_up f_38 n_20 (.inl (cK, 2, .inr (.inr (.inr (.inr f_42)))))) n_48 (.inl (cJ, 0, .inr (.inr (.inr (.inr (fun _ => none)))))))⟩, rfl, hSP, ⟨by rw [ht]; exact hP9, hD9⟩⟩, hS.F ht⟩) hS.2.2 dX4_init_54
