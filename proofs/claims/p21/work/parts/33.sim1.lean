set_option maxHeartbeats 4000000 in
set_option maxRecDepth 100000 in
theorem k_X4_with (l : Launch) (D : va_G) (cI cZ cJ cK : ClassId) (hz9 : Nat) (w0 : Nat) (x0 : Int32) (L : List Nat) (f : Nat → va_E) (M : List Nat) (x : Nat) (hw : w0 ∈ L) (hM : rowE cI M (f w0)) (hxv : x0 = iI ↑x) (hlm : M.length ≤ 39) : Met l yX4_with (ws_ yX4_with cX4_with 4 (Option.some (.array .int))) ({ frames := 0, cells := 1, slots := 40, locals := 0 }) (va_Pc [.ref w0, .int x0] (wPre D cI cZ cJ cK hz9 ([] ++ va_pl L f))) (va_Qr (fun (u : List Nat × (Nat → va_E)) => True) (fun (u : List Nat × (Nat → va_E)) r t => ((pExt L f u.1 u.2) ∧ (r ∈ u.1) ∧ (r ∉ L) ∧ (rowE cI (M ++ [x]) (u.2 r))) ∧ wPost D (va_A ([] ++ va_pl L f) hz9) ([] ++ va_pl u.1 u.2) t) (va_A ([] ++ va_pl L f) hz9)) 1 40 (va_A ([] ++ va_pl L f) hz9) := by
  refine Met.ofW (cc := cX4_with) (maxL := 4) (ret := (Option.some (.array .int))) (by decide) rfl ?_
  intro p e s m args below meth c s₁ hBd hml hv
  obtain ⟨rfl, hsz, hP, hD, hK, hT, hZ⟩ := hv
  have hx := hBd.exec
  have hb := hBd.bytes
  have hr := hBd.returns
  have hts : ∀ w ∈ lw_G, w.before _ s = true := fun w h => atoms_spec (ws := (ws_ yX4_with cX4_with 4 (Option.some (.array .int)))) hBd.pre w (List.mem_cons_of_mem _ h)
  have hown : s.vm.findClass RX4 = some m.cls := findClass_of_methodNamed hBd.named
  have hlocks := hBd.notSynchronized
  subst hsz
  have hD := hD.self (sz := s.heap.size)
  have hZA := hZ.own hP
  generalize hAe : va_A ([] ++ va_pl L f) s.heap.size = A at hD hZA ⊢
  have hA : ∀ q : Nat, s.heap.size ≤ q → A q := fun q h => by rw [← hAe]; exact Or.inr h
  have hZ := hZA
  have hS : va_S A s.heap s.heap [] := va_S.rf
  have hl := lv_entry ([.ref w0, .int x0]) (n := 4) (Nat.le_of_ble_eq_true rfl)
  rw [lg_entry_eq]
  generalize (lg_sl ([.ref w0, .int x0]) ++ List.replicate (4 - (lg_sl ([.ref w0, .int x0])).length) Slot.unset).toArray = ls at hl ⊢
  have hl : lv_has ls 4 [(0, .ref w0), (1, .int x0)] := hl
  have hP : va_P D vwCl ([] ++ va_pl L f) s.heap := hP
  obtain ⟨g0, hf0, hg0⟩ := hM
  refine lv_aload_n hx hb dX4_with_0 rfl (lv_at hl 0 rfl) ?_
  refine rd_alen hx hb hK hP 0 (pl_mem hw hf0) rfl dX4_with_1 (fun x_1 v_1 => ?_)
  have v_1 : x_1 = iI (↑(M.length)) := v_1
  refine lz_iconst hx hb dX4_with_2 (fun x_2 v_2 => ?_)
  refine lz_iadd hx hb v_1 v_2 dX4_with_3 (fun x_3 v_3 => ?_)
  refine pl_new hx hb (hts _ qw53) 0 rfl hK hP hD hS hA v_3 ((M.length) + 1) (by omega) (by omega) (Nat.le_of_ble_eq_true rfl) (by show 0 + ((M.length) + 1) ≤ 40; omega) dX4_with_4 (fun n_4 H hq_4 hP hD hS => ?_)
  have hP : va_P D vwCl ([] ++ va_pl (L ++ [n_4]) (va_up f n_4 (.inl (cI, (M.length) + 1, .inl (fun _ => 0))))) H := hP
  have hD : va_D A ([] ++ va_pl (L ++ [n_4]) (va_up f n_4 (.inl (cI, (M.length) + 1, .inl (fun _ => 0))))) := hD
  have hn_w0_n_4 : w0 ≠ n_4 := fun z => hq_4 (by rw [← z]; exact hw)
  refine lv_astore_n (lv' := [(2, .ref n_4), (0, .ref w0), (1, .int x0)]) hx hb dX4_with_6 rfl hl (by decide) rfl (fun ls hl => ?_)
  refine lz_iconst hx hb dX4_with_7 (fun x_7 v_7 => ?_)
  refine lv_istore_n (lv' := [(3, .int x_7), (2, .ref n_4), (0, .ref w0), (1, .int x0)]) hx hb dX4_with_8 rfl hl (by decide) rfl (fun ls hl => ?_)
  have key9 : ∀ (fu : Nat) (i : Nat) (ii : Int32) (g : Nat → Int32) (H : Heap) (locs : List Loc) (ls : Array Slot), M.length + 1 - i < fu → (ii = iI (↑i)) → (i ≤ M.length) → (∀ j, j < i → g j = g0 j) → va_P D vwCl ([] ++ va_pl (L ++ [n_4]) (va_up f n_4 (.inl (cI, M.length + 1, .inl g)))) H → va_D A ([] ++ va_pl (L ++ [n_4]) (va_up f n_4 (.inl (cI, M.length + 1, .inl g)))) → va_S A s.heap H locs → lv_has ls 4 [(3, .int ii), (2, .ref n_4), (0, .ref w0), (1, .int x0)] → W p l e (headSpec (ws_ yX4_with cX4_with 4 (Option.some (.array .int))) ({ frames := 0, cells := 1, slots := 40, locals := 0 })).room s m ([.ref w0, .int x0] : List Value).toArray below meth c H locs 1 (0 + ((M.length) + 1)) (MQ below (va_Qr (fun (u : List Nat × (Nat → va_E)) => True) (fun (u : List Nat × (Nat → va_E)) r t => ((pExt L f u.1 u.2) ∧ (r ∈ u.1) ∧ (r ∉ L) ∧ (rowE cI (M ++ [x]) (u.2 r))) ∧ wPost D A ([] ++ va_pl u.1 u.2) t) A) ([.ref w0, .int x0] : List Value).toArray s 1 40 A) (F0 m 9 ls []) := by
    intro fu
    induction fu with
    | zero => intros; omega
    | succ fu ih9 =>
      intro i ii g H locs ls hfu hi hle hg hP hD hS hl
      refine lv_iload_n hx hb dX4_with_9 rfl (lv_at hl 0 rfl) ?_
      refine lv_aload_n hx hb dX4_with_10 rfl (lv_at hl 2 rfl) ?_
      refine rd_alen hx hb hK hP 0 (pl_mem (List.mem_append_left _ hw) ((va_up_ne _ _ hn_w0_n_4).trans hf0)) rfl dX4_with_11 (fun x_11 v_11 => ?_)
      have v_11 : x_11 = iI (↑(M.length)) := v_11
      refine lz_icmp_ge (tgt := 27) hx hb hi v_11 ⟨by omega, by omega⟩ dX4_with_12 (by decide) (fun c_12 => ?_) (fun c_12 => ?_)
      · refine lv_aload_n hx hb dX4_with_27 rfl (lv_at hl 1 rfl) ?_
        refine lv_aload_n hx hb dX4_with_28 rfl (lv_at hl 2 rfl) ?_
        refine rd_alen hx hb hK hP 0 (pl_mem (List.mem_append_left _ hw) ((va_up_ne _ _ hn_w0_n_4).trans hf0)) rfl dX4_with_29 (fun x_29 v_29 => ?_)
        have v_29 : x_29 = iI (↑(M.length)) := v_29
        refine lv_iload_n hx hb dX4_with_30 rfl (lv_at hl 3 rfl) ?_
        refine pl_iast hx hb hK hP hD hS 0 (List.mem_append_right _ List.mem_cons_self) (va_up_self _ _ _) rfl v_29 ((M.length)) (by omega) (by omega) (by omega) dX4_with_31 (fun f_31 H locs e_31 hP hD hS => ?_)
        rw [va_uu] at hP hD
        have hP : va_P D vwCl ([] ++ va_pl (L ++ [n_4]) (va_up f n_4 (.inl (cI, M.length + 1, .inl f_31)))) H := hP
        have hD : va_D A ([] ++ va_pl (L ++ [n_4]) (va_up f n_4 (.inl (cI, M.length + 1, .inl f_31)))) := hD
        refine lv_aload_n hx hb dX4_with_32 rfl (lv_at hl 1 rfl) ?_
        have hP9 := hP
        have hD9 := hD
        refine W.widen (k := 1) (n := 40) (by omega) (by omega) ?_
        exact W.aret (v := .ref n_4) hx hb hr (Or.inr ⟨_, rfl⟩) (Or.inr ⟨_, rfl⟩) (fun t ht hW => ⟨⟨⟨(L ++ [n_4]), (va_up f n_4 (.inl (cI, M.length + 1, .inl f_31)))⟩, n_4, rfl, trivial, ⟨⟨pExt.new hq_4, (List.mem_append_right _ List.mem_cons_self), hq_4, ⟨f_31, (va_up_self _ _ _).trans (by rw [List.length_append]; rfl), row_push hg0 (fun j hj => hg j (by omega)) e_31 hxv⟩⟩, ⟨by rw [ht]; exact hP9, hD9⟩⟩⟩, hS.F ht⟩) hS.2.2 dX4_with_33
      · refine lv_aload_n hx hb dX4_with_15 rfl (lv_at hl 1 rfl) ?_
        refine lv_iload_n hx hb dX4_with_16 rfl (lv_at hl 0 rfl) ?_
        refine lv_aload_n hx hb dX4_with_17 rfl (lv_at hl 2 rfl) ?_
        refine lv_iload_n hx hb dX4_with_18 rfl (lv_at hl 0 rfl) ?_
        refine rd_iald hx hb hK hP 0 (pl_mem (List.mem_append_left _ hw) ((va_up_ne _ _ hn_w0_n_4).trans hf0)) rfl hi (i) (by omega) (by omega) (by omega) dX4_with_19 (fun x_19 e_19 => ?_)
        refine pl_iast hx hb hK hP hD hS 0 (List.mem_append_right _ List.mem_cons_self) (va_up_self _ _ _) rfl hi (i) (by omega) (by omega) (by omega) dX4_with_20 (fun f_20 H locs e_20 hP hD hS => ?_)
        rw [va_uu] at hP hD
        have hP : va_P D vwCl ([] ++ va_pl (L ++ [n_4]) (va_up f n_4 (.inl (cI, M.length + 1, .inl f_20)))) H := hP
        have hD : va_D A ([] ++ va_pl (L ++ [n_4]) (va_up f n_4 (.inl (cI, M.length + 1, .inl f_20)))) := hD
        refine lz_iinc (lv2 := fun z => [(3, .int z), (2, .ref n_4), (0, .ref w0), (1, .int x0)]) hx hb dX4_with_21 hl (k := 0) rfl hi (by decide) (fun _ => rfl) (fun x_21 ls v_21 hl => ?_)
        refine lv_goto (tgt := 9) hx hb dX4_with_24 (by decide) ?_
        exact ih9 (i + 1) x_21 f_20 _ _ _ (by omega) (v_21.trans (congrArg iI (by omega))) (by omega) (cp_s hg e_20 e_19) hP hD hS (lv_sub hl [0, 1, 2, 3] rfl)
  exact key9 _ 0 x_7 (fun _ => 0) _ _ _ (Nat.lt_succ_self _) (v_7.trans (congrArg iI (by omega))) (by omega) (fun j hj => absurd hj (Nat.not_lt_zero j)) hP hD hS (lv_sub hl [0, 1, 2, 3] rfl)
set_option maxHeartbeats 4000000 in
set_option maxRecDepth 100000 in
theorem k_X4_without (l : Launch) (D : va_G) (cI cZ cJ cK : ClassId) (hz9 : Nat) (w0 : Nat) (x0 : Int32) (L : List Nat) (f : Nat → va_E) (M : List Nat) (x : Nat) (hw : w0 ∈ L) (hM : rowE cI M (f w0)) (hxv : x0 = iI ↑x) (hxb : x < 1000) (hMb : ∀ y ∈ M, y < 1000) (hlm : M.length ≤ 40) : Met l yX4_without (ws_ yX4_without cX4_without 7 (Option.some (.array .int))) ({ frames := 1, cells := 41, slots := 1600, locals := 23 }) (va_Pc [.ref w0, .int x0] (wPre D cI cZ cJ cK hz9 ([] ++ va_pl L f))) (va_Qr (fun (u : List Nat × (Nat → va_E)) => True) (fun (u : List Nat × (Nat → va_E)) r t => ((pExt L f u.1 u.2) ∧ (r ∈ u.1) ∧ (r ∉ L) ∧ (rowE cI (M.filter (fun y => decide (y ≠ x))) (u.2 r))) ∧ wPost D (va_A ([] ++ va_pl L f) hz9) ([] ++ va_pl u.1 u.2) t) (va_A ([] ++ va_pl L f) hz9)) 41 1600 (va_A ([] ++ va_pl L f) hz9) := by
  refine Met.ofW (cc := cX4_without) (maxL := 7) (ret := (Option.some (.array .int))) (by decide) rfl ?_
  intro p e s m args below meth c s₁ hBd hml hv
  obtain ⟨rfl, hsz, hP, hD, hK, hT, hZ⟩ := hv
  have hx := hBd.exec
  have hb := hBd.bytes
  have hr := hBd.returns
  have hts : ∀ w ∈ lw_G, w.before _ s = true := fun w h => atoms_spec (ws := (ws_ yX4_without cX4_without 7 (Option.some (.array .int)))) hBd.pre w (List.mem_cons_of_mem _ h)
  have hown : s.vm.findClass RX4 = some m.cls := findClass_of_methodNamed hBd.named
  have hlocks := hBd.notSynchronized
  subst hsz
  have hD := hD.self (sz := s.heap.size)
  have hZA := hZ.own hP
  generalize hAe : va_A ([] ++ va_pl L f) s.heap.size = A at hD hZA ⊢
  have hA : ∀ q : Nat, s.heap.size ≤ q → A q := fun q h => by rw [← hAe]; exact Or.inr h
  have hZ := hZA
  have hS : va_S A s.heap s.heap [] := va_S.rf
  have hl := lv_entry ([.ref w0, .int x0]) (n := 7) (Nat.le_of_ble_eq_true rfl)
  rw [lg_entry_eq]
  generalize (lg_sl ([.ref w0, .int x0]) ++ List.replicate (7 - (lg_sl ([.ref w0, .int x0])).length) Slot.unset).toArray = ls at hl ⊢
  have hl : lv_has ls 7 [(0, .ref w0), (1, .int x0)] := hl
  have hP : va_P D vwCl ([] ++ va_pl L f) s.heap := hP
  obtain ⟨g0, hf0, hg0⟩ := hM
  refine lz_iconst hx hb dX4_without_0 (fun x_0 v_0 => ?_)
  refine pl_new hx hb (hts _ qw53) 0 rfl hK hP hD hS hA v_0 (0) (by omega) (by omega) (Nat.le_of_ble_eq_true rfl) (Nat.le_of_ble_eq_true rfl) dX4_without_1 (fun n_1 H hq_1 hP hD hS => ?_)
  have hP : va_P D vwCl ([] ++ va_pl (L ++ [n_1]) (va_up f n_1 (.inl (cI, 0, .inl (fun _ => 0))))) H := hP
  have hD : va_D A ([] ++ va_pl (L ++ [n_1]) (va_up f n_1 (.inl (cI, 0, .inl (fun _ => 0))))) := hD
  have hn_w0_n_1 : w0 ≠ n_1 := fun z => hq_1 (by rw [← z]; exact hw)
  refine lv_astore_n (lv' := [(2, .ref n_1), (0, .ref w0), (1, .int x0)]) hx hb dX4_without_3 rfl hl (by decide) rfl (fun ls hl => ?_)
  refine lv_aload_n hx hb dX4_without_4 rfl (lv_at hl 1 rfl) ?_
  refine lv_astore_n (lv' := [(3, .ref w0), (2, .ref n_1), (0, .ref w0), (1, .int x0)]) hx hb dX4_without_5 rfl hl (by decide) rfl (fun ls hl => ?_)
  refine lv_aload_n hx hb dX4_without_6 rfl (lv_at hl 0 rfl) ?_
  refine rd_alen hx hb hK hP 0 (pl_mem (List.mem_append_left _ hw) ((va_up_ne _ _ hn_w0_n_1).trans hf0)) rfl dX4_without_7 (fun x_7 v_7 => ?_)
  have v_7 : x_7 = iI (↑(M.length)) := v_7
  refine lv_istore (lv' := [(4, .int x_7), (3, .ref w0), (2, .ref n_1), (0, .ref w0), (1, .int x0)]) hx hb dX4_without_8 hl (by decide) rfl (fun ls hl => ?_)
  refine lz_iconst hx hb dX4_without_10 (fun x_10 v_10 => ?_)
  refine lv_istore (lv' := [(5, .int x_10), (4, .int x_7), (3, .ref w0), (2, .ref n_1), (0, .ref w0), (1, .int x0)]) hx hb dX4_without_11 hl (by decide) rfl (fun ls hl => ?_)
  have key13 : ∀ (fu : Nat) (i : Nat) (ii : Int32) (Li : List Nat) (fi : Nat → va_E) (qi : Nat) (H : Heap) (locs : List Loc) (ls : Array Slot), M.length + 1 - i < fu → (ii = iI (↑i)) → (i ≤ M.length) → (pExt L f Li fi) → (qi ∈ Li) → (qi ∉ L) → (rowE cI ((M.take i).filter (fun y => decide (y ≠ x))) (fi qi)) → va_P D vwCl ([] ++ va_pl Li fi) H → va_D A ([] ++ va_pl Li fi) → va_S A s.heap H locs → lv_has ls 7 [(5, .int ii), (4, .int x_7), (3, .ref w0), (2, .ref qi), (0, .ref w0), (1, .int x0)] → W p l e (headSpec (ws_ yX4_without cX4_without 7 (Option.some (.array .int))) ({ frames := 1, cells := 41, slots := 1600, locals := 23 })).room s m ([.ref w0, .int x0] : List Value).toArray below meth c H locs (1 + i) (40 * i) (MQ below (va_Qr (fun (u : List Nat × (Nat → va_E)) => True) (fun (u : List Nat × (Nat → va_E)) r t => ((pExt L f u.1 u.2) ∧ (r ∈ u.1) ∧ (r ∉ L) ∧ (rowE cI (M.filter (fun y => decide (y ≠ x))) (u.2 r))) ∧ wPost D A ([] ++ va_pl u.1 u.2) t) A) ([.ref w0, .int x0] : List Value).toArray s 41 1600 A) (F0 m 13 ls []) := by
    intro fu
    induction fu with
    | zero => intros; omega
    | succ fu ih13 =>
      intro i ii Li fi qi H locs ls hfu hi hle hxt hq hqn hrw hP hD hS hl
      refine lv_iload hx hb dX4_without_13 (lv_at hl 0 rfl) ?_
      refine lv_iload hx hb dX4_without_15 (lv_at hl 1 rfl) ?_
      refine lz_icmp_ge (tgt := 45) hx hb hi v_7 ⟨by omega, by omega⟩ dX4_without_17 (by decide) (fun c_17 => ?_) (fun c_17 => ?_)
      · refine lv_aload_n hx hb dX4_without_45 rfl (lv_at hl 3 rfl) ?_
        have hP9 := hP
        have hD9 := hD
        refine W.widen (k := 41) (n := 1600) (by omega) (by omega) ?_
        exact W.aret (v := .ref qi) hx hb hr (Or.inr ⟨_, rfl⟩) (Or.inr ⟨_, rfl⟩) (fun t ht hW => ⟨⟨⟨Li, fi⟩, qi, rfl, trivial, ⟨⟨hxt, hq, hqn, by rw [take_all (show M.length ≤ i by omega)] at hrw; exact hrw⟩, ⟨by rw [ht]; exact hP9, hD9⟩⟩⟩, hS.F ht⟩) hS.2.2 dX4_without_46
      · have hgb := getD_bd hMb i
        refine lv_aload_n hx hb dX4_without_20 rfl (lv_at hl 2 rfl) ?_
        refine lv_iload hx hb dX4_without_21 (lv_at hl 0 rfl) ?_
        refine rd_iald hx hb hK hP 0 (pl_mem (hxt _ hw).1 ((hxt _ hw).2.trans hf0)) rfl hi (i) (by omega) (by omega) (by omega) dX4_without_23 (fun x_23 e_23 => ?_)
        have v_23 : x_23 = iI (↑(M.getD i 0)) := e_23.trans (hg0 _ (by omega))
        refine lv_istore (lv' := [(6, .int x_23), (5, .int ii), (4, .int x_7), (3, .ref w0), (2, .ref qi), (0, .ref w0), (1, .int x0)]) hx hb dX4_without_24 hl (by decide) rfl (fun ls hl => ?_)
        refine lv_iload hx hb dX4_without_26 (lv_at hl 0 rfl) ?_
        refine lv_iload_n hx hb dX4_without_28 rfl (lv_at hl 6 rfl) ?_
        refine lz_icmp_eq (tgt := 39) hx hb v_23 hxv ⟨by omega, by omega⟩ dX4_without_29 (by decide) (fun c_29 => ?_) (fun c_29 => ?_)
        · refine lz_iinc (lv2 := fun z => [(5, .int z), (6, .int x_23), (4, .int x_7), (3, .ref w0), (2, .ref qi), (0, .ref w0), (1, .int x0)]) hx hb dX4_without_39 hl (k := 1) rfl hi (by decide) (fun _ => rfl) (fun x_39 ls v_39 hl => ?_)
          refine lv_goto (tgt := 13) hx hb dX4_without_42 (by decide) ?_
          refine W.widen (k := (1 + (i + 1))) (n := (40 * (i + 1))) (by omega) (by omega) ?_
          exact ih13 (i + 1) x_39 Li fi qi _ _ _ (by omega) (v_39.trans (congrArg iI (by omega))) (by omega) (hxt) (hq) (hqn) (by rw [flt_out (show i < M.length by omega) (by omega)]; exact hrw) hP hD hS (lv_sub hl [0, 2, 3, 4, 5, 6] rfl)
        · refine lv_aload_n hx hb dX4_without_32 rfl (lv_at hl 4 rfl) ?_
          refine lv_iload hx hb dX4_without_33 (lv_at hl 0 rfl) ?_
          refine cp_r (wr := []) (ws2 := fun u9 => ([] ++ va_pl u9.1 u9.2)) (va_runS (As := [.ref qi, .int x_23]) (rest := []) ⟨hx, hb, hml, hown, hts⟩ (k_X4_with l D cI cZ cJ cK _ qi x_23 Li fi ((M.take i).filter (fun y => decide (y ≠ x))) (M.getD i 0) (hq) (hrw) (v_23.trans (congrArg iI (by omega))) (by have h1 := List.length_filter_le (fun y => decide (y ≠ x)) (M.take i); rw [List.length_take] at h1; omega)) (va_cwS 2 hts (gS qw476 qw477 qw14 qw478) rfl rfl rfl (by decide +kernel) ⟨Nat.le_of_ble_eq_true rfl, Nat.le_of_ble_eq_true rfl⟩) (psP (wr := []) hP hD hK hT hZ hS (List.Perm.refl _)) rfl rfl hl.1 rfl (lv_room (Nat.le_of_ble_eq_true rfl)) dX4_without_35 ⟨(by show ((1 + i) + 1) ≤ 41; omega), (by show ((40 * i) + 40) ≤ 1600; omega)⟩) hS hP hD hA (List.Perm.refl _) (fun _ => List.Perm.refl _) (fun x_35 u_35 H locs hw_35 hP hD hS => ?_)
          obtain ⟨L2_35, f2_35⟩ := u_35
          have hP : va_P D vwCl ([] ++ va_pl L2_35 f2_35) H := hP
          have hD : va_D A ([] ++ va_pl L2_35 f2_35) := hD
          have hw_35 : (pExt Li fi L2_35 f2_35) ∧ (x_35 ∈ L2_35) ∧ (x_35 ∉ Li) ∧ (rowE cI (((M.take i).filter (fun y => decide (y ≠ x))) ++ [(M.getD i 0)]) (f2_35 x_35)) := hw_35
          obtain ⟨e_35, i_35, o_35, v_35⟩ := hw_35
          refine lv_astore_n (lv' := [(2, .ref x_35), (6, .int x_23), (5, .int ii), (4, .int x_7), (3, .ref w0), (0, .ref w0), (1, .int x0)]) hx hb dX4_without_38 rfl hl (by decide) rfl (fun ls hl => ?_)
          refine lz_iinc (lv2 := fun z => [(5, .int z), (2, .ref x_35), (6, .int x_23), (4, .int x_7), (3, .ref w0), (0, .ref w0), (1, .int x0)]) hx hb dX4_without_39 hl (k := 2) rfl hi (by decide) (fun _ => rfl) (fun x_39 ls v_39 hl => ?_)
          refine lv_goto (tgt := 13) hx hb dX4_without_42 (by decide) ?_
          refine W.widen (k := (1 + (i + 1))) (n := (40 * (i + 1))) (by omega) (by omega) ?_
          exact ih13 (i + 1) x_39 L2_35 f2_35 x_35 _ _ _ (by omega) (v_39.trans (congrArg iI (by omega))) (by omega) (hxt.tr e_35) (i_35) (fun z => o_35 (hxt _ z).1) (by rw [flt_in (show i < M.length by omega) (fun z => c_29 (by rw [z]))]; exact v_35) hP hD hS (lv_sub hl [0, 3, 4, 1, 5, 6] rfl)
  refine W.widen (k := (1 + 0)) (n := (40 * 0)) (by omega) (by omega) ?_
  exact key13 _ 0 x_10 (L ++ [n_1]) (va_up f n_1 (.inl (cI, 0, .inl (fun _ => 0)))) n_1 _ _ _ (Nat.lt_succ_self _) (v_10.trans (congrArg iI (by omega))) (by omega) (pExt.new hq_1) ((List.mem_append_right _ List.mem_cons_self)) (hq_1) (⟨fun _ => 0, va_up_self _ _ _, fun j hj => absurd hj (Nat.not_lt_zero j)⟩) hP hD hS (lv_sub hl [0, 1, 2, 3, 4, 5] rfl)
set_option maxHeartbeats 4000000 in
set_option maxRecDepth 100000 in
theorem k_X4_bucket (l : Launch) (D : va_G) (cI cZ cJ cK : ClassId) (hz9 : Nat) (t0 : Nat) (h0 : Int32) (x0 : Int32) (lw : Nat) (rk : Nat) (hs : Nat) (em : Nat) (mt : Int32) (qn : Int32) (L : List Nat) (f : Nat → va_E) (h x lo : Nat) (hlw : lw ∈ L) (hfl : ∃ g : Nat → Int32, f lw = .inl (cI, 2, .inl g) ∧ g h = iI ↑lo) (hhv : h0 = iI ↑h) (hh2 : h < 2) (hxv : x0 = iI ↑x) (hx4 : x < 1024) (hlo4 : lo < 1024) : Met l yX4_bucket (ws_ yX4_bucket cX4_bucket 4 (Option.some .int)) ({ frames := 0, cells := 0, slots := 0, locals := 0 }) (va_Pc [.ref t0, .int h0, .int x0] (wPre D cI cZ cJ cK hz9 ([(t0, .inr (4, [.ref lw, .ref rk, .ref hs, .ref em, .int mt, .int qn]))] ++ va_pl L f))) (va_Qi (fun r (_ : Unit) => (r = iI (↑(bk lo x)))) (fun _ _ => True) (fun _ => False)) 0 0 (fun _ => False) := by
  refine Met.ofW (cc := cX4_bucket) (maxL := 4) (ret := (Option.some .int)) (by decide) rfl ?_
  intro p e s m args below meth c s₁ hBd hml hv
  obtain ⟨rfl, hsz, hP, hD, hK, hT, hZ⟩ := hv
  have hx := hBd.exec
  have hb := hBd.bytes
  have hr := hBd.returns
  have hts : ∀ w ∈ lw_G, w.before _ s = true := fun w h => atoms_spec (ws := (ws_ yX4_bucket cX4_bucket 4 (Option.some .int))) hBd.pre w (List.mem_cons_of_mem _ h)
  have hown : s.vm.findClass RX4 = some m.cls := findClass_of_methodNamed hBd.named
  have hlocks := hBd.notSynchronized
  subst hsz
  have hS : va_S (fun _ => False) s.heap s.heap [] := va_S.rf
  have hl := lv_entry ([.ref t0, .int h0, .int x0]) (n := 4) (Nat.le_of_ble_eq_true rfl)
  rw [lg_entry_eq]
  generalize (lg_sl ([.ref t0, .int h0, .int x0]) ++ List.replicate (4 - (lg_sl ([.ref t0, .int h0, .int x0])).length) Slot.unset).toArray = ls at hl ⊢
  have hl : lv_has ls 4 [(0, .ref t0), (1, .int h0), (2, .int x0)] := hl
  have hP : va_P D vwCl ([(t0, .inr (4, [.ref lw, .ref rk, .ref hs, .ref em, .int mt, .int qn]))] ++ va_pl L f) s.heap := hP
  obtain ⟨g0, hf0, hg0⟩ := hfl
  have hb10 : bk lo x ≤ 10 := bk_le10 hlo4 hx4
  refine lz_iconst hx hb dX4_bucket_0 (fun x_0 v_0 => ?_)
  refine lv_istore_n (lv' := [(3, .int x_0), (0, .ref t0), (1, .int h0), (2, .int x0)]) hx hb dX4_bucket_1 rfl hl (by decide) rfl (fun ls hl => ?_)
  have key2 : ∀ (fu : Nat) (i : Nat) (ii : Int32) (H : Heap) (locs : List Loc) (ls : Array Slot), bk lo x + 1 - i < fu → (ii = iI (↑i)) → (i ≤ bk lo x) → va_P D vwCl ([(t0, .inr (4, [.ref lw, .ref rk, .ref hs, .ref em, .int mt, .int qn]))] ++ va_pl L f) H → va_S (fun _ => False) s.heap H locs → lv_has ls 4 [(3, .int ii), (0, .ref t0), (1, .int h0), (2, .int x0)] → W p l e (headSpec (ws_ yX4_bucket cX4_bucket 4 (Option.some .int)) ({ frames := 0, cells := 0, slots := 0, locals := 0 })).room s m ([.ref t0, .int h0, .int x0] : List Value).toArray below meth c H locs 0 0 (MQ below (va_Qi (fun r (_ : Unit) => (r = iI (↑(bk lo x)))) (fun _ _ => True) (fun _ => False)) ([.ref t0, .int h0, .int x0] : List Value).toArray s 0 0 (fun _ => False)) (F0 m 2 ls []) := by
    intro fu
    induction fu with
    | zero => intros; omega
    | succ fu ih2 =>
      intro i ii H locs ls hfu hi hle hP hS hl
      refine lv_iload_n hx hb dX4_bucket_2 rfl (lv_at hl 3 rfl) ?_
      refine lv_iload_n hx hb dX4_bucket_3 rfl (lv_at hl 0 rfl) ?_
      refine lv_ishr hx hb dX4_bucket_4 ?_
      refine lv_topi (fun x_4 e_4 => ?_)
      have v_4 : x_4 = iI (↑(x / 2 ^ i)) := by rw [e_4, hxv, hi]; exact shr_I hx4 (by omega)
      refine lv_aload_n hx hb dX4_bucket_5 rfl (lv_at hl 1 rfl) ?_
      refine va_get (D := D) (ci := 4) (v := .ref lw) (C := RX4) (T := TX4) (N := 6) hx hb hts iX4 hown hK hP 0 rfl rfl 0 (by decide) (hts _ qw616) (fun _ h9 => h9) rfl dX4_bucket_6 ?_
      refine lv_iload_n hx hb dX4_bucket_9 rfl (lv_at hl 2 rfl) ?_
      refine rd_iald hx hb hK hP 0 (pl_mem hlw hf0) rfl hhv (h) (by omega) (by omega) (by omega) dX4_bucket_10 (fun x_10 e_10 => ?_)
      have v_10 : x_10 = iI (↑lo) := e_10.trans (hg0)
      refine lv_iload_n hx hb dX4_bucket_11 rfl (lv_at hl 0 rfl) ?_
      refine lv_ishr hx hb dX4_bucket_12 ?_
      refine lv_topi (fun x_12 e_12 => ?_)
      have v_12 : x_12 = iI (↑(lo / 2 ^ i)) := by rw [e_12, v_10, hi]; exact shr_I hlo4 (by omega)
      refine lz_icmp_eq (tgt := 22) hx hb v_4 v_12 ⟨div_rg hx4, div_rg hlo4⟩ dX4_bucket_13 (by decide) (fun c_13 => ?_) (fun c_13 => ?_)
      · refine lv_iload_n hx hb dX4_bucket_22 rfl (lv_at hl 0 rfl) ?_
        exact W.iret (v := ii) hx hb hr (fun t ht hW => ⟨⟨ii, (), rfl, hi.trans (congrArg iI (by have := bk_eqT c_13; omega)), trivial⟩, hS.F ht⟩) hS.2.2 dX4_bucket_23
      · refine lz_iinc (lv2 := fun z => [(3, .int z), (0, .ref t0), (1, .int h0), (2, .int x0)]) hx hb dX4_bucket_16 hl (k := 0) rfl hi (by decide) (fun _ => rfl) (fun x_16 ls v_16 hl => ?_)
        refine lv_goto (tgt := 2) hx hb dX4_bucket_19 (by decide) ?_
        exact ih2 (i + 1) x_16 _ _ _ (by omega) (v_16.trans (congrArg iI (by omega))) (bk_neF c_13) hP hS (lv_sub hl [0, 1, 2, 3] rfl)
  exact key2 _ 0 x_0 _ _ _ (Nat.lt_succ_self _) (v_0.trans (congrArg iI (by omega))) (Nat.zero_le _) hP hS (lv_sub hl [0, 1, 2, 3] rfl)
