set_option maxHeartbeats 4000000 in
set_option maxRecDepth 100000 in
theorem k_X4_light (l : Launch) (D : va_G) (cI cZ cJ cK : ClassId) (hz9 : Nat) (t0 : Nat) (h0 : Int32) (x0 : Int32) (lw : Nat) (rk : Nat) (hs : Nat) (em : Nat) (mt : Int32) (qn : Int32) (L : List Nat) (f : Nat → va_E) (h x : Nat) (n : Nat) (Hh : Nat → Nat) (mv : Nat → Int32) (rv : Nat → Int) (lo : Nat → Nat) (gk : Nat → Int32) (R : Nat → Nat → List Nat) (hSP : SimP cI cJ cK n Hh mv rv lo gk R lw rk hs em L f) (hhv : h0 = iI ↑h) (hh2 : h < 2) (hxv : x0 = iI ↑x) (hx4 : x < 1024) (hn39 : n ≤ 39) (hlo4 : lo h < 1024) (hlen : ∀ b, b < 11 → (R h b).length ≤ 39) (hmv : mv n = 0) (hrv : rv n = 0) : Met l yX4_light (ws_ yX4_light cX4_light 5 (Option.some .int)) ({ frames := 2, cells := 3, slots := 83, locals := 46 }) (va_Pc [.ref t0, .int h0, .int x0] (wPre D cI cZ cJ cK hz9 ([(t0, .inr (4, [.ref lw, .ref rk, .ref hs, .ref em, .int mt, .int qn]))] ++ va_pl L f))) (va_Qi (fun r (u : Nat × List Nat × (Nat → va_E)) => (r = iI (↑n)) ∧ (SimP cI cJ cK (n + 1) (va_up Hh n x) mv rv lo gk (putR (ka (lo h) (va_up Hh n x)) h R n) lw rk hs u.1 u.2.1 u.2.2)) (fun (u : Nat × List Nat × (Nat → va_E)) t => wPost D (va_A ([(t0, .inr (4, [.ref lw, .ref rk, .ref hs, .ref em, .int mt, .int qn]))] ++ va_pl L f) hz9) ([(t0, .inr (4, [.ref lw, .ref rk, .ref hs, .ref u.1, .int mt, .int qn]))] ++ va_pl u.2.1 u.2.2) t) (va_A ([(t0, .inr (4, [.ref lw, .ref rk, .ref hs, .ref em, .int mt, .int qn]))] ++ va_pl L f) hz9)) 3 83 (va_A ([(t0, .inr (4, [.ref lw, .ref rk, .ref hs, .ref em, .int mt, .int qn]))] ++ va_pl L f) hz9) := by
  refine Met.ofW (cc := cX4_light) (maxL := 5) (ret := (Option.some .int)) (by decide) rfl ?_
  intro p e s m args below meth c s₁ hBd hml hv
  obtain ⟨rfl, hsz, hP, hD, hK, hT, hZ⟩ := hv
  have hx := hBd.exec
  have hb := hBd.bytes
  have hr := hBd.returns
  have hts : ∀ w ∈ lw_G, w.before _ s = true := fun w h => atoms_spec (ws := (ws_ yX4_light cX4_light 5 (Option.some .int))) hBd.pre w (List.mem_cons_of_mem _ h)
  have hown : s.vm.findClass RX4 = some m.cls := findClass_of_methodNamed hBd.named
  have hlocks := hBd.notSynchronized
  subst hsz
  have hD := hD.self (sz := s.heap.size)
  have hZA := hZ.own hP
  generalize hAe : va_A ([(t0, .inr (4, [.ref lw, .ref rk, .ref hs, .ref em, .int mt, .int qn]))] ++ va_pl L f) s.heap.size = A at hD hZA ⊢
  have hA : ∀ q : Nat, s.heap.size ≤ q → A q := fun q h => by rw [← hAe]; exact Or.inr h
  have hZ := hZA
  have hS : va_S A s.heap s.heap [] := va_S.rf
  have hl := lv_entry ([.ref t0, .int h0, .int x0]) (n := 5) (Nat.le_of_ble_eq_true rfl)
  rw [lg_entry_eq]
  generalize (lg_sl ([.ref t0, .int h0, .int x0]) ++ List.replicate (5 - (lg_sl ([.ref t0, .int h0, .int x0])).length) Slot.unset).toArray = ls at hl ⊢
  have hl : lv_has ls 5 [(0, .ref t0), (1, .int h0), (2, .int x0)] := hl
  have hP : va_P D vwCl ([(t0, .inr (4, [.ref lw, .ref rk, .ref hs, .ref em, .int mt, .int qn]))] ++ va_pl L f) s.heap := hP
  obtain ⟨K, ha, ea, rr, qS⟩ := id hSP
  obtain ⟨⟨lw1, lw2, gl, lw3, lw4⟩, ⟨rk1, rk2, gg, rk3, rk4⟩, ⟨hs1, hs2, gs, hs3, hs4⟩, ⟨em1, em2, ge, em3, em4⟩, q5, q6, q7⟩ := id qS
  refine lv_aload_n hx hb dX4_light_0 rfl (lv_at hl 0 rfl) ?_
  refine va_get (D := D) (ci := 4) (v := .ref em) (C := RX4) (T := TX4) (N := 6) hx hb hts iX4 hown hK hP 0 rfl rfl 3 (by decide) (hts _ qw620) (fun _ h9 => h9) rfl dX4_light_1 ?_
  refine rd_alen hx hb hK hP 2 (pl_mem em1 em3) rfl dX4_light_4 (fun x_4 v_4 => ?_)
  have v_4 : x_4 = iI (↑(n)) := v_4
  refine lz_iconst hx hb dX4_light_5 (fun x_5 v_5 => ?_)
  refine lz_iadd hx hb v_4 v_5 dX4_light_6 (fun x_6 v_6 => ?_)
  refine pl_anew (t := .int) hx hb hown (hts _ qw596) rfl hT.2.2.1 2 rfl hK hP hD hS hA v_6 ((n) + 1) (by omega) (by omega) (Nat.le_of_ble_eq_true rfl) (by show 0 + ((n) + 1) ≤ 83; omega) dX4_light_7 (fun n_7 H hq_7 hP hD hS => ?_)
  have hP : va_P D vwCl ([(t0, .inr (4, [.ref lw, .ref rk, .ref hs, .ref em, .int mt, .int qn]))] ++ va_pl (L ++ [n_7]) (va_up f n_7 (.inl (cJ, (n) + 1, .inr (.inr (.inr (.inr (fun _ => none)))))))) H := hP
  have hD : va_D A ([(t0, .inr (4, [.ref lw, .ref rk, .ref hs, .ref em, .int mt, .int qn]))] ++ va_pl (L ++ [n_7]) (va_up f n_7 (.inl (cJ, (n) + 1, .inr (.inr (.inr (.inr (fun _ => none)))))))) := hD
  have hn_em_n_7 : em ≠ n_7 := fun z => hq_7 (by rw [← z]; exact em1)
  refine lv_astore_n (lv' := [(3, .ref n_7), (0, .ref t0), (1, .int h0), (2, .int x0)]) hx hb dX4_light_10 rfl hl (by decide) rfl (fun ls hl => ?_)
  refine lz_iconst hx hb dX4_light_11 (fun x_11 v_11 => ?_)
  refine lv_istore (lv' := [(4, .int x_11), (3, .ref n_7), (0, .ref t0), (1, .int h0), (2, .int x0)]) hx hb dX4_light_12 hl (by decide) rfl (fun ls hl => ?_)
  have key14 : ∀ (fu : Nat) (i : Nat) (ii : Int32) (g : Nat → Option Nat) (H : Heap) (locs : List Loc) (ls : Array Slot), n + 1 - i < fu → (ii = iI (↑i)) → (i ≤ n) → (∀ j, j < i → g j = some (ea j)) → va_P D vwCl ([(t0, .inr (4, [.ref lw, .ref rk, .ref hs, .ref em, .int mt, .int qn]))] ++ va_pl (L ++ [n_7]) (va_up f n_7 (.inl (cJ, n + 1, .inr (.inr (.inr (.inr g))))))) H → va_D A ([(t0, .inr (4, [.ref lw, .ref rk, .ref hs, .ref em, .int mt, .int qn]))] ++ va_pl (L ++ [n_7]) (va_up f n_7 (.inl (cJ, n + 1, .inr (.inr (.inr (.inr g))))))) → va_S A s.heap H locs → lv_has ls 5 [(4, .int ii), (3, .ref n_7), (0, .ref t0), (1, .int h0), (2, .int x0)] → W p l e (headSpec (ws_ yX4_light cX4_light 5 (Option.some .int)) ({ frames := 2, cells := 3, slots := 83, locals := 46 })).room s m ([.ref t0, .int h0, .int x0] : List Value).toArray below meth c H locs 1 (0 + ((n) + 1)) (MQ below (va_Qi (fun r (u : Nat × List Nat × (Nat → va_E)) => (r = iI (↑n)) ∧ (SimP cI cJ cK (n + 1) (va_up Hh n x) mv rv lo gk (putR (ka (lo h) (va_up Hh n x)) h R n) lw rk hs u.1 u.2.1 u.2.2)) (fun (u : Nat × List Nat × (Nat → va_E)) t => wPost D A ([(t0, .inr (4, [.ref lw, .ref rk, .ref hs, .ref u.1, .int mt, .int qn]))] ++ va_pl u.2.1 u.2.2) t) A) ([.ref t0, .int h0, .int x0] : List Value).toArray s 3 83 A) (F0 m 14 ls []) := by
    intro fu
    induction fu with
    | zero => intros; omega
    | succ fu ih14 =>
      intro i ii g H locs ls hfu hi hle hg hP hD hS hl
      refine lv_iload hx hb dX4_light_14 (lv_at hl 0 rfl) ?_
      refine lv_aload_n hx hb dX4_light_16 rfl (lv_at hl 2 rfl) ?_
      refine va_get (D := D) (ci := 4) (v := .ref em) (C := RX4) (T := TX4) (N := 6) hx hb hts iX4 hown hK hP 0 rfl rfl 3 (by decide) (hts _ qw620) (fun _ h9 => h9) rfl dX4_light_17 ?_
      refine rd_alen hx hb hK hP 2 (pl_mem (List.mem_append_left _ em1) ((va_up_ne _ _ hn_em_n_7).trans em3)) rfl dX4_light_20 (fun x_20 v_20 => ?_)
      have v_20 : x_20 = iI (↑(n)) := v_20
      refine lz_icmp_ge (tgt := 41) hx hb hi v_20 ⟨by omega, by omega⟩ dX4_light_21 (by decide) (fun c_21 => ?_) (fun c_21 => ?_)
      · refine lv_aload_n hx hb dX4_light_41 rfl (lv_at hl 1 rfl) ?_
        refine lv_aload_n hx hb dX4_light_42 rfl (lv_at hl 2 rfl) ?_
        refine va_get (D := D) (ci := 4) (v := .ref em) (C := RX4) (T := TX4) (N := 6) hx hb hts iX4 hown hK hP 0 rfl rfl 3 (by decide) (hts _ qw620) (fun _ h9 => h9) rfl dX4_light_43 ?_
        refine rd_alen hx hb hK hP 2 (pl_mem (List.mem_append_left _ em1) ((va_up_ne _ _ hn_em_n_7).trans em3)) rfl dX4_light_46 (fun x_46 v_46 => ?_)
        have v_46 : x_46 = iI (↑(n)) := v_46
        refine lz_iconst hx hb dX4_light_47 (fun x_47 v_47 => ?_)
        refine pl_new hx hb (hts _ qw53) 0 rfl hK hP hD hS hA v_47 (3) (by omega) (by omega) (Nat.le_of_ble_eq_true rfl) (by show (0 + ((n) + 1)) + 3 ≤ 83; omega) dX4_light_48 (fun n_48 H hq_48 hP hD hS => ?_)
        have hP : va_P D vwCl ([(t0, .inr (4, [.ref lw, .ref rk, .ref hs, .ref em, .int mt, .int qn]))] ++ va_pl ((L ++ [n_7]) ++ [n_48]) (va_up (va_up f n_7 (.inl (cJ, n + 1, .inr (.inr (.inr (.inr g)))))) n_48 (.inl (cI, 3, .inl (fun _ => 0))))) H := hP
        have hD : va_D A ([(t0, .inr (4, [.ref lw, .ref rk, .ref hs, .ref em, .int mt, .int qn]))] ++ va_pl ((L ++ [n_7]) ++ [n_48]) (va_up (va_up f n_7 (.inl (cJ, n + 1, .inr (.inr (.inr (.inr g)))))) n_48 (.inl (cI, 3, .inl (fun _ => 0))))) := hD
        have hn_em_n_48 : em ≠ n_48 := fun z => hq_48 (by rw [← z]; exact (List.mem_append_left _ em1))
        have hn_n_7_n_48 : n_7 ≠ n_48 := fun z => hq_48 (by rw [← z]; exact (List.mem_append_right _ List.mem_cons_self))
        refine lv_dup hx hb dX4_light_50 rfl ?_
        refine lz_iconst hx hb dX4_light_51 (fun x_51 v_51 => ?_)
        refine lv_iload_n hx hb dX4_light_52 rfl (lv_at hl 4 rfl) ?_
        refine pl_iast hx hb hK hP hD hS 0 (List.mem_append_right _ List.mem_cons_self) (va_up_self _ _ _) rfl v_51 (0) (by omega) (by omega) (by omega) dX4_light_53 (fun f_53 H locs e_53 hP hD hS => ?_)
        rw [va_uu] at hP hD
        have hP : va_P D vwCl ([(t0, .inr (4, [.ref lw, .ref rk, .ref hs, .ref em, .int mt, .int qn]))] ++ va_pl ((L ++ [n_7]) ++ [n_48]) (va_up (va_up f n_7 (.inl (cJ, n + 1, .inr (.inr (.inr (.inr g)))))) n_48 (.inl (cI, 3, .inl f_53)))) H := hP
        have hD : va_D A ([(t0, .inr (4, [.ref lw, .ref rk, .ref hs, .ref em, .int mt, .int qn]))] ++ va_pl ((L ++ [n_7]) ++ [n_48]) (va_up (va_up f n_7 (.inl (cJ, n + 1, .inr (.inr (.inr (.inr g)))))) n_48 (.inl (cI, 3, .inl f_53)))) := hD
        refine lv_dup hx hb dX4_light_54 rfl ?_
        refine lz_iconst hx hb dX4_light_55 (fun x_55 v_55 => ?_)
        refine lz_iconst hx hb dX4_light_56 (fun x_56 v_56 => ?_)
        refine pl_iast hx hb hK hP hD hS 0 (List.mem_append_right _ List.mem_cons_self) (va_up_self _ _ _) rfl v_55 (1) (by omega) (by omega) (by omega) dX4_light_57 (fun f_57 H locs e_57 hP hD hS => ?_)
        rw [va_uu] at hP hD
        have hP : va_P D vwCl ([(t0, .inr (4, [.ref lw, .ref rk, .ref hs, .ref em, .int mt, .int qn]))] ++ va_pl ((L ++ [n_7]) ++ [n_48]) (va_up (va_up f n_7 (.inl (cJ, n + 1, .inr (.inr (.inr (.inr g)))))) n_48 (.inl (cI, 3, .inl f_57)))) H := hP
        have hD : va_D A ([(t0, .inr (4, [.ref lw, .ref rk, .ref hs, .ref em, .int mt, .int qn]))] ++ va_pl ((L ++ [n_7]) ++ [n_48]) (va_up (va_up f n_7 (.inl (cJ, n + 1, .inr (.inr (.inr (.inr g)))))) n_48 (.inl (cI, 3, .inl f_57)))) := hD
        refine lv_dup hx hb dX4_light_58 rfl ?_
        refine lz_iconst hx hb dX4_light_59 (fun x_59 v_59 => ?_)
        refine lz_iconst hx hb dX4_light_60 (fun x_60 v_60 => ?_)
        refine pl_iast hx hb hK hP hD hS 0 (List.mem_append_right _ List.mem_cons_self) (va_up_self _ _ _) rfl v_59 (2) (by omega) (by omega) (by omega) dX4_light_61 (fun f_61 H locs e_61 hP hD hS => ?_)
        rw [va_uu] at hP hD
        have hP : va_P D vwCl ([(t0, .inr (4, [.ref lw, .ref rk, .ref hs, .ref em, .int mt, .int qn]))] ++ va_pl ((L ++ [n_7]) ++ [n_48]) (va_up (va_up f n_7 (.inl (cJ, n + 1, .inr (.inr (.inr (.inr g)))))) n_48 (.inl (cI, 3, .inl f_61)))) H := hP
        have hD : va_D A ([(t0, .inr (4, [.ref lw, .ref rk, .ref hs, .ref em, .int mt, .int qn]))] ++ va_pl ((L ++ [n_7]) ++ [n_48]) (va_up (va_up f n_7 (.inl (cJ, n + 1, .inr (.inr (.inr (.inr g)))))) n_48 (.inl (cI, 3, .inl f_61)))) := hD
        refine pl_aast hx hb hK hP hD hS (List.mem_append_left _ (List.mem_append_right _ List.mem_cons_self)) ((va_up_ne _ _ hn_n_7_n_48).trans (va_up_self _ _ _)) (pl_mem (List.mem_append_right _ List.mem_cons_self) (va_up_self _ _ _)) (comp_J hK hT) v_46 ((n)) (by omega) (by omega) (by omega) dX4_light_62 (fun f_62 H locs e_62 hP hD hS => ?_)
        have hP : va_P D vwCl ([(t0, .inr (4, [.ref lw, .ref rk, .ref hs, .ref em, .int mt, .int qn]))] ++ va_pl ((L ++ [n_7]) ++ [n_48]) (va_up (va_up (va_up f n_7 (.inl (cJ, n + 1, .inr (.inr (.inr (.inr g)))))) n_48 (.inl (cI, 3, .inl f_61))) n_7 (.inl (cJ, n + 1, .inr (.inr (.inr (.inr f_62))))))) H := hP
        have hD : va_D A ([(t0, .inr (4, [.ref lw, .ref rk, .ref hs, .ref em, .int mt, .int qn]))] ++ va_pl ((L ++ [n_7]) ++ [n_48]) (va_up (va_up (va_up f n_7 (.inl (cJ, n + 1, .inr (.inr (.inr (.inr g)))))) n_48 (.inl (cI, 3, .inl f_61))) n_7 (.inl (cJ, n + 1, .inr (.inr (.inr (.inr f_62))))))) := hD
        refine lv_aload_n hx hb dX4_light_63 rfl (lv_at hl 2 rfl) ?_
        refine lv_aload_n hx hb dX4_light_64 rfl (lv_at hl 1 rfl) ?_
        refine va_put (D := D) (ci := 4) (v := .ref n_7) (ty := (.array (.array .int))) (C := RX4) (T := TX4) (N := 6) hx hb hts iX4 tyX4 tyX4_ok nmX4 hown hK hP hD hS 0 rfl rfl 3 (by decide) (hts _ qw620) (fun _ h9 => h9) rfl (by decide +kernel) rfl rfl (Nat.le_of_ble_eq_true rfl) dX4_light_65 (fun H locs hP hD hS => ?_)
        have hP : va_P D vwCl ([(t0, .inr (4, [.ref lw, .ref rk, .ref hs, .ref n_7, .int mt, .int qn]))] ++ va_pl ((L ++ [n_7]) ++ [n_48]) (va_up (va_up (va_up f n_7 (.inl (cJ, n + 1, .inr (.inr (.inr (.inr g)))))) n_48 (.inl (cI, 3, .inl f_61))) n_7 (.inl (cJ, n + 1, .inr (.inr (.inr (.inr f_62))))))) H := hP
        have hD : va_D A ([(t0, .inr (4, [.ref lw, .ref rk, .ref hs, .ref n_7, .int mt, .int qn]))] ++ va_pl ((L ++ [n_7]) ++ [n_48]) (va_up (va_up (va_up f n_7 (.inl (cJ, n + 1, .inr (.inr (.inr (.inr g)))))) n_48 (.inl (cI, 3, .inl f_61))) n_7 (.inl (cJ, n + 1, .inr (.inr (.inr (.inr f_62))))))) := hD
        refine lv_aload_n hx hb dX4_light_68 rfl (lv_at hl 2 rfl) ?_
        refine lv_iload_n hx hb dX4_light_69 rfl (lv_at hl 3 rfl) ?_
        refine lv_aload_n hx hb dX4_light_70 rfl (lv_at hl 2 rfl) ?_
        refine va_get (D := D) (ci := 4) (v := .ref n_7) (C := RX4) (T := TX4) (N := 6) hx hb hts iX4 hown hK hP 0 rfl rfl 3 (by decide) (hts _ qw620) (fun _ h9 => h9) rfl dX4_light_71 ?_
        refine rd_alen hx hb hK hP 2 (pl_mem (List.mem_append_left _ (List.mem_append_right _ List.mem_cons_self)) (va_up_self _ _ _)) rfl dX4_light_74 (fun x_74 v_74 => ?_)
        have v_74 : x_74 = iI (↑(n + 1)) := v_74
        refine lz_iconst hx hb dX4_light_75 (fun x_75 v_75 => ?_)
        refine lz_isub hx hb v_74 v_75 dX4_light_76 (fun x_76 v_76 => ?_)
        have hS2 : SimP cI cJ cK (n + 1) (va_up Hh n x) mv rv lo gk R lw rk hs n_7 ((L ++ [n_7]) ++ [n_48]) (va_up (va_up (va_up f n_7 (.inl (cJ, n + 1, .inr (.inr (.inr (.inr g)))))) n_48 (.inl (cI, 3, .inl f_61))) n_7 (.inl (cJ, n + 1, .inr (.inr (.inr (.inr f_62)))))) := SimK.lit qS (pExt.put ((pExt.new hq_7).tr (pExt.new hq_48)) hq_7) (List.mem_append_left _ (List.mem_append_right _ List.mem_cons_self)) hq_7 (List.mem_append_right _ List.mem_cons_self) (fun z => hq_48 (List.mem_append_left _ z)) (fun z => hn_n_7_n_48 z.symm) (va_up_self _ _ _) ⟨fun e he => by rw [e_62, va_up_ne _ _ (by omega)]; exact hg e (by omega), by rw [e_62, va_up_self]⟩ ((va_up_ne _ _ (fun z => hn_n_7_n_48 z.symm)).trans (va_up_self _ _ _)) (by rw [e_61, upd_n _ _ (by omega), e_57, upd_n _ _ (by omega), e_53, upd_s]; exact hxv) (by rw [e_61, upd_n _ _ (by omega), e_57, upd_s, v_56]; rfl) (by rw [e_61, upd_s, v_60]) rfl hmv hrv
        obtain ⟨wk, hSQ2⟩ := SimQ.of hS2
        refine cp_v (wr := []) (ws2 := fun u9 => ([(t0, .inr (4, [.ref lw, .ref rk, .ref hs, .ref n_7, .int mt, .int qn]))] ++ va_pl u9.1 u9.2)) (va_runV (As := [.int h0, .int x_76]) (rest := []) ⟨hx, hb, hml, hown, hts⟩ (k_X4_put l D cI cZ cJ cK _ t0 h0 x_76 lw rk hs n_7 mt qn ((L ++ [n_7]) ++ [n_48]) (va_up (va_up (va_up f n_7 (.inl (cJ, n + 1, .inr (.inr (.inr (.inr g)))))) n_48 (.inl (cI, 3, .inl f_61))) n_7 (.inl (cJ, n + 1, .inr (.inr (.inr (.inr f_62)))))) h n (n + 1) (va_up Hh n x) mv rv lo gk R wk (R 0 0) (hSQ2) (hhv.trans (congrArg iI (by omega))) (hh2) (v_76.trans (congrArg iI (by omega))) (Nat.lt_succ_self n) (by omega) (by rw [va_up_self]; exact hx4) (hlo4) (hlen)) (cwV 2 hts (gV qw468 qw469 qw470 qw14 qw471) rfl rfl rfl (by decide +kernel) ⟨Nat.le_of_ble_eq_true rfl, Nat.le_of_ble_eq_true rfl⟩) (pvP (ci := 4) (r := (RX4, TX4, 6)) (q0 := 0) (wr := []) hP hD hK hT hZ hS (List.Perm.refl _) rfl rfl) rfl rfl hl.1 rfl (lv_room (Nat.le_of_ble_eq_true rfl)) dX4_light_77 ⟨(by show 3 ≤ 3; omega), (by show (((0 + ((n) + 1)) + 3) + 40) ≤ 83; omega)⟩) hS hP hD hA (List.Perm.refl _) (fun _ => List.Perm.refl _) (fun u_77 H locs hw_77 hP hD hS => ?_)
        obtain ⟨L2_77, f2_77⟩ := u_77
        have hP : va_P D vwCl ([(t0, .inr (4, [.ref lw, .ref rk, .ref hs, .ref n_7, .int mt, .int qn]))] ++ va_pl L2_77 f2_77) H := hP
        have hD : va_D A ([(t0, .inr (4, [.ref lw, .ref rk, .ref hs, .ref n_7, .int mt, .int qn]))] ++ va_pl L2_77 f2_77) := hD
        have hw_77 : (SimQ cI cJ cK (n + 1) (va_up Hh n x) mv rv lo gk (putR (ka (lo h) (va_up Hh n x)) h R n) lw rk hs n_7 L2_77 f2_77 wk (R 0 0)) := hw_77
        have v_77 := hw_77
        clear qS
        obtain ⟨K, ha, ea, rr, qS, qw, qk, qM⟩ := id v_77
        obtain ⟨⟨lw1, lw2, gl, lw3, lw4⟩, ⟨rk1, rk2, gg, rk3, rk4⟩, ⟨hs1, hs2, gs, hs3, hs4⟩, ⟨em1, em2, ge, em3, em4⟩, q5, q6, q7⟩ := id qS
        refine lv_aload_n hx hb dX4_light_80 rfl (lv_at hl 2 rfl) ?_
        refine va_get (D := D) (ci := 4) (v := .ref n_7) (C := RX4) (T := TX4) (N := 6) hx hb hts iX4 hown hK hP 0 rfl rfl 3 (by decide) (hts _ qw620) (fun _ h9 => h9) rfl dX4_light_81 ?_
        refine rd_alen hx hb hK hP 2 (pl_mem em1 em3) rfl dX4_light_84 (fun x_84 v_84 => ?_)
        have v_84 : x_84 = iI (↑(n + 1)) := v_84
        refine lz_iconst hx hb dX4_light_85 (fun x_85 v_85 => ?_)
        refine lz_isub hx hb v_84 v_85 dX4_light_86 (fun x_86 v_86 => ?_)
        have hP9 := hP
        have hD9 := hD
        refine W.widen (k := 3) (n := 83) (by omega) (by omega) ?_
        exact W.iret (v := x_86) hx hb hr (fun t ht hW => ⟨⟨x_86, ⟨n_7, L2_77, f2_77⟩, rfl, ⟨v_86.trans (congrArg iI (by omega)), v_77.P⟩, ⟨by rw [ht]; exact hP9, hD9⟩⟩, hS.F ht⟩) hS.2.2 dX4_light_87
      · obtain ⟨ea1, ea2, gx, ea3, -⟩ := q7 i (by omega)
        have hne9 : ea i ≠ n_7 := fun z => hq_7 (by rw [← z]; exact ea1)
        refine lv_aload_n hx hb dX4_light_24 rfl (lv_at hl 1 rfl) ?_
        refine lv_iload hx hb dX4_light_25 (lv_at hl 0 rfl) ?_
        refine lv_aload_n hx hb dX4_light_27 rfl (lv_at hl 2 rfl) ?_
        refine va_get (D := D) (ci := 4) (v := .ref em) (C := RX4) (T := TX4) (N := 6) hx hb hts iX4 hown hK hP 0 rfl rfl 3 (by decide) (hts _ qw620) (fun _ h9 => h9) rfl dX4_light_28 ?_
        refine lv_iload hx hb dX4_light_31 (lv_at hl 0 rfl) ?_
        refine rd_aald hx hb hK hP 2 (pl_mem (List.mem_append_left _ em1) ((va_up_ne _ _ hn_em_n_7).trans em3)) rfl hi (i) (by omega) (by omega) (by omega) (em4 _ (by omega)) dX4_light_33 ?_
        refine pl_aast hx hb hK hP hD hS (List.mem_append_right _ List.mem_cons_self) (va_up_self _ _ _) (pl_mem (List.mem_append_left _ ea1) ((va_up_ne _ _ hne9).trans ea3)) (comp_J hK hT) hi (i) (by omega) (by omega) (by omega) dX4_light_34 (fun f_34 H locs e_34 hP hD hS => ?_)
        rw [va_uu] at hP hD
        have hP : va_P D vwCl ([(t0, .inr (4, [.ref lw, .ref rk, .ref hs, .ref em, .int mt, .int qn]))] ++ va_pl (L ++ [n_7]) (va_up f n_7 (.inl (cJ, n + 1, .inr (.inr (.inr (.inr f_34))))))) H := hP
        have hD : va_D A ([(t0, .inr (4, [.ref lw, .ref rk, .ref hs, .ref em, .int mt, .int qn]))] ++ va_pl (L ++ [n_7]) (va_up f n_7 (.inl (cJ, n + 1, .inr (.inr (.inr (.inr f_34))))))) := hD
        refine lz_iinc (lv2 := fun z => [(4, .int z), (3, .ref n_7), (0, .ref t0), (1, .int h0), (2, .int x0)]) hx hb dX4_light_35 hl (k := 0) rfl hi (by decide) (fun _ => rfl) (fun x_35 ls v_35 hl => ?_)
        refine lv_goto (tgt := 14) hx hb dX4_light_38 (by decide) ?_
        exact ih14 (i + 1) x_35 f_34 _ _ _ (by omega) (v_35.trans (congrArg iI (by omega))) (by omega) (up_next hg e_34) hP hD hS (lv_sub hl [0, 1, 2, 3, 4] rfl)
  exact key14 _ 0 x_11 (fun _ => none) _ _ _ (Nat.lt_succ_self _) (v_11.trans (congrArg iI (by omega))) (by omega) (fun j hj => absurd hj (Nat.not_lt_zero j)) hP hD hS (lv_sub hl [0, 1, 2, 3, 4] rfl)
set_option maxHeartbeats 4000000 in
set_option maxRecDepth 100000 in
theorem k_X4_rake_0 (l : Launch) (D : va_G) (cI cZ cJ cK : ClassId) (hz9 : Nat) (t0 : Nat) (h0 : Int32) (lw : Nat) (rk : Nat) (hs : Nat) (em : Nat) (mt : Int32) (qn : Int32) (L : List Nat) (f : Nat → va_E) (h b0 : Nat) (n : Nat) (Hh : Nat → Nat) (mv : Nat → Int32) (rv : Nat → Int) (lo : Nat → Nat) (gk : Nat → Int32) (R : Nat → Nat → List Nat) (hSP : SimP cI cJ cK n Hh mv rv lo gk R lw rk hs em L f) (hhv : h0 = iI ↑h) (hh2 : h < 2) (hb11 : b0 < 11) (hb0 : b0 = 0) (hemp : ∀ j, j < b0 → R h j = []) (hne : 0 < (R h b0).length) (hn4 : n ≤ 40) (hne2 : 0 < (R h 0).length) (hRn2 : ∀ x ∈ R h 0, x < n) (hl2 : (R h 0).length ≤ 40) (hRl : ∀ b, b < 11 → (R h b).length ≤ 40) : Met l yX4_rake (ws_ yX4_rake cX4_rake 8 (Option.some .int)) ({ frames := 2, cells := 82, slots := 3240, locals := 49 }) (va_Pc [.ref t0, .int h0] (wPre D cI cZ cJ cK hz9 ([(t0, .inr (4, [.ref lw, .ref rk, .ref hs, .ref em, .int mt, .int qn]))] ++ va_pl L f))) (va_Qi (fun r (u : List Nat × (Nat → va_E)) => (r = iI (↑((R h 0).getD 0 0))) ∧ (SimP cI cJ cK n Hh mv (va_up rv ((R h 0).getD 0 0) 1) lo (upd gk h (gk h + iI 1)) (va_up R h (va_up (R h) 0 ((R h 0).filter (fun y => decide (y ≠ ((R h 0).getD 0 0)))))) lw rk hs em u.1 u.2)) (fun (u : List Nat × (Nat → va_E)) t => wPost D (va_A ([(t0, .inr (4, [.ref lw, .ref rk, .ref hs, .ref em, .int mt, .int qn]))] ++ va_pl L f) hz9) ([(t0, .inr (4, [.ref lw, .ref rk, .ref hs, .ref em, .int mt, .int qn]))] ++ va_pl u.1 u.2) t) (va_A ([(t0, .inr (4, [.ref lw, .ref rk, .ref hs, .ref em, .int mt, .int qn]))] ++ va_pl L f) hz9)) 82 3240 (va_A ([(t0, .inr (4, [.ref lw, .ref rk, .ref hs, .ref em, .int mt, .int qn]))] ++ va_pl L f) hz9) := by
  refine Met.ofW (cc := cX4_rake) (maxL := 8) (ret := (Option.some .int)) (by decide) rfl ?_
  intro p e s m args below meth c s₁ hBd hml hv
  obtain ⟨rfl, hsz, hP, hD, hK, hT, hZ⟩ := hv
  have hx := hBd.exec
  have hb := hBd.bytes
  have hr := hBd.returns
  have hts : ∀ w ∈ lw_G, w.before _ s = true := fun w h => atoms_spec (ws := (ws_ yX4_rake cX4_rake 8 (Option.some .int))) hBd.pre w (List.mem_cons_of_mem _ h)
  have hown : s.vm.findClass RX4 = some m.cls := findClass_of_methodNamed hBd.named
  have hlocks := hBd.notSynchronized
  subst hsz
  have hD := hD.self (sz := s.heap.size)
  have hZA := hZ.own hP
  generalize hAe : va_A ([(t0, .inr (4, [.ref lw, .ref rk, .ref hs, .ref em, .int mt, .int qn]))] ++ va_pl L f) s.heap.size = A at hD hZA ⊢
  have hA : ∀ q : Nat, s.heap.size ≤ q → A q := fun q h => by rw [← hAe]; exact Or.inr h
  have hZ := hZA
  have hS : va_S A s.heap s.heap [] := va_S.rf
  have hl := lv_entry ([.ref t0, .int h0]) (n := 8) (Nat.le_of_ble_eq_true rfl)
  rw [lg_entry_eq]
  generalize (lg_sl ([.ref t0, .int h0]) ++ List.replicate (8 - (lg_sl ([.ref t0, .int h0])).length) Slot.unset).toArray = ls at hl ⊢
  have hl : lv_has ls 8 [(0, .ref t0), (1, .int h0)] := hl
  have hP : va_P D vwCl ([(t0, .inr (4, [.ref lw, .ref rk, .ref hs, .ref em, .int mt, .int qn]))] ++ va_pl L f) s.heap := hP
  obtain ⟨K, ha, ea, rr, qS⟩ := id hSP
  obtain ⟨⟨lw1, lw2, gl, lw3, lw4⟩, ⟨rk1, rk2, gg, rk3, rk4⟩, ⟨hs1, hs2, gs, hs3, hs4⟩, ⟨em1, em2, ge, em3, em4⟩, q5, q6, q7⟩ := id qS
  obtain ⟨ha1, ha2, gh, ha3, ha4⟩ := q5 h hh2
  refine lz_iconst hx hb dX4_rake_0 (fun x_0 v_0 => ?_)
  refine lv_istore_n (lv' := [(2, .int x_0), (0, .ref t0), (1, .int h0)]) hx hb dX4_rake_1 rfl hl (by decide) rfl (fun ls hl => ?_)
  have key2 : ∀ (fu : Nat) (b9 : Nat) (bb : Int32) (H : Heap) (locs : List Loc) (ls : Array Slot), b0 + 1 - b9 < fu → (bb = iI (↑b9)) → (b9 ≤ b0) → va_P D vwCl ([(t0, .inr (4, [.ref lw, .ref rk, .ref hs, .ref em, .int mt, .int qn]))] ++ va_pl L f) H → va_D A ([(t0, .inr (4, [.ref lw, .ref rk, .ref hs, .ref em, .int mt, .int qn]))] ++ va_pl L f) → va_S A s.heap H locs → lv_has ls 8 [(2, .int bb), (0, .ref t0), (1, .int h0)] → W p l e (headSpec (ws_ yX4_rake cX4_rake 8 (Option.some .int)) ({ frames := 2, cells := 82, slots := 3240, locals := 49 })).room s m ([.ref t0, .int h0] : List Value).toArray below meth c H locs 0 0 (MQ below (va_Qi (fun r (u : List Nat × (Nat → va_E)) => (r = iI (↑((R h 0).getD 0 0))) ∧ (SimP cI cJ cK n Hh mv (va_up rv ((R h 0).getD 0 0) 1) lo (upd gk h (gk h + iI 1)) (va_up R h (va_up (R h) 0 ((R h 0).filter (fun y => decide (y ≠ ((R h 0).getD 0 0)))))) lw rk hs em u.1 u.2)) (fun (u : List Nat × (Nat → va_E)) t => wPost D A ([(t0, .inr (4, [.ref lw, .ref rk, .ref hs, .ref em, .int mt, .int qn]))] ++ va_pl u.1 u.2) t) A) ([.ref t0, .int h0] : List Value).toArray s 82 3240 A) (F0 m 2 ls []) := by
    intro fu
    induction fu with
    | zero => intros; omega
    | succ fu ih2 =>
      intro b9 bb H locs ls hfu hib hlb hP hD hS hl
      refine lv_aload_n hx hb dX4_rake_2 rfl (lv_at hl 1 rfl) ?_
      refine va_get (D := D) (ci := 4) (v := .ref hs) (C := RX4) (T := TX4) (N := 6) hx hb hts iX4 hown hK hP 0 rfl rfl 2 (by decide) (hts _ qw619) (fun _ h9 => h9) rfl dX4_rake_3 ?_
      refine lv_iload_n hx hb dX4_rake_6 rfl (lv_at hl 2 rfl) ?_
      refine rd_aald hx hb hK hP 3 (pl_mem hs1 hs3) rfl hhv (h) (by omega) (by omega) (by omega) (hs4 _ (by omega)) dX4_rake_7 ?_
      refine lv_iload_n hx hb dX4_rake_8 rfl (lv_at hl 0 rfl) ?_
      obtain ⟨rc1, rc2, gc, rc4, rc5⟩ := q6 h b9 hh2 (by omega)
      have hRl9 := hRl b9 (by omega)
      refine rd_aald hx hb hK hP 2 (pl_mem ha1 ha3) rfl hib (b9) (by omega) (by omega) (by omega) (ha4 _ (by omega)) dX4_rake_9 ?_
      refine rd_alen hx hb hK hP 0 (pl_mem rc1 rc4) rfl dX4_rake_10 (fun x_10 v_10 => ?_)
      have v_10 : x_10 = iI (↑((R h b9).length)) := v_10
      refine lz_if_ne (tgt := 20) hx hb v_10 (by omega) dX4_rake_11 (by decide) (fun c_11 => ?_) (fun c_11 => ?_)
      · have hbe : b9 = b0 := by
          rcases Nat.lt_or_ge b9 b0 with q | q
          · rw [hemp b9 q] at c_11; exact absurd rfl c_11
          · omega
        have hib0 : bb = iI (↑b0) := hib.trans (by rw [hbe])
        refine lv_iload_n hx hb dX4_rake_20 rfl (lv_at hl 0 rfl) ?_
        refine lz_if_le (tgt := 121) hx hb hib0 (by omega) dX4_rake_21 (by decide) (fun c_21 => ?_) (fun c_21 => ?_)
        · obtain ⟨rb1, rb2, rb3⟩ := q6 h 0 hh2 (by omega)
          obtain ⟨gr, rb4, rb5⟩ := id rb3
          refine lv_aload_n hx hb dX4_rake_121 rfl (lv_at hl 1 rfl) ?_
          refine va_get (D := D) (ci := 4) (v := .ref hs) (C := RX4) (T := TX4) (N := 6) hx hb hts iX4 hown hK hP 0 rfl rfl 2 (by decide) (hts _ qw619) (fun _ h9 => h9) rfl dX4_rake_122 ?_
          refine lv_iload_n hx hb dX4_rake_125 rfl (lv_at hl 2 rfl) ?_
          refine rd_aald hx hb hK hP 3 (pl_mem hs1 hs3) rfl hhv (h) (by omega) (by omega) (by omega) (hs4 _ (by omega)) dX4_rake_126 ?_
          refine lz_iconst hx hb dX4_rake_127 (fun x_127 v_127 => ?_)
          refine rd_aald hx hb hK hP 2 (pl_mem ha1 ha3) rfl v_127 (0) (by omega) (by omega) (by omega) (ha4 _ (by omega)) dX4_rake_128 ?_
          refine lz_iconst hx hb dX4_rake_129 (fun x_129 v_129 => ?_)
          refine rd_iald hx hb hK hP 0 (pl_mem rb1 rb4) rfl v_129 (0) (by omega) (by omega) (by omega) dX4_rake_130 (fun x_130 e_130 => ?_)
          have v_130 : x_130 = iI (↑((R h 0).getD 0 0)) := e_130.trans (rb5 _ (by omega))
          refine lv_istore_n (lv' := [(3, .int x_130), (2, .int bb), (0, .ref t0), (1, .int h0)]) hx hb dX4_rake_131 rfl hl (by decide) rfl (fun ls hl => ?_)
          refine lv_aload_n hx hb dX4_rake_132 rfl (lv_at hl 2 rfl) ?_
          refine va_get (D := D) (ci := 4) (v := .ref hs) (C := RX4) (T := TX4) (N := 6) hx hb hts iX4 hown hK hP 0 rfl rfl 2 (by decide) (hts _ qw619) (fun _ h9 => h9) rfl dX4_rake_133 ?_
          refine lv_iload_n hx hb dX4_rake_136 rfl (lv_at hl 3 rfl) ?_
          refine rd_aald hx hb hK hP 3 (pl_mem hs1 hs3) rfl hhv (h) (by omega) (by omega) (by omega) (hs4 _ (by omega)) dX4_rake_137 ?_
          refine lz_iconst hx hb dX4_rake_138 (fun x_138 v_138 => ?_)
          refine lv_aload_n hx hb dX4_rake_139 rfl (lv_at hl 2 rfl) ?_
          refine va_get (D := D) (ci := 4) (v := .ref hs) (C := RX4) (T := TX4) (N := 6) hx hb hts iX4 hown hK hP 0 rfl rfl 2 (by decide) (hts _ qw619) (fun _ h9 => h9) rfl dX4_rake_140 ?_
          refine lv_iload_n hx hb dX4_rake_143 rfl (lv_at hl 3 rfl) ?_
          refine rd_aald hx hb hK hP 3 (pl_mem hs1 hs3) rfl hhv (h) (by omega) (by omega) (by omega) (hs4 _ (by omega)) dX4_rake_144 ?_
          refine lz_iconst hx hb dX4_rake_145 (fun x_145 v_145 => ?_)
          refine rd_aald hx hb hK hP 2 (pl_mem ha1 ha3) rfl v_145 (0) (by omega) (by omega) (by omega) (ha4 _ (by omega)) dX4_rake_146 ?_
          refine lv_iload_n hx hb dX4_rake_147 rfl (lv_at hl 0 rfl) ?_
          refine cp_r (wr := [(t0, .inr (4, [.ref lw, .ref rk, .ref hs, .ref em, .int mt, .int qn]))]) (ws2 := fun u9 => ([(t0, .inr (4, [.ref lw, .ref rk, .ref hs, .ref em, .int mt, .int qn]))] ++ va_pl u9.1 u9.2)) (va_runS (As := [.ref (rr h 0), .int x_130]) (rest := [.int x_138, .ref (ha h)]) ⟨hx, hb, hml, hown, hts⟩ (k_X4_without l D cI cZ cJ cK _ (rr h 0) x_130 L f (R h 0) ((R h 0).getD 0 0) (rb1) (rb3) (v_130.trans (congrArg iI (by omega))) (by have := hRn2 _ (getD_in hne2); omega) (fun y hy => by have := hRn2 y hy; omega) (hl2)) (va_cwS 2 hts (gS qw479 qw480 qw14 qw481) rfl rfl rfl (by decide +kernel) ⟨Nat.le_of_ble_eq_true rfl, Nat.le_of_ble_eq_true rfl⟩) (psP (wr := [(t0, .inr (4, [.ref lw, .ref rk, .ref hs, .ref em, .int mt, .int qn]))]) hP hD hK hT hZ hS (List.Perm.refl _)) rfl rfl hl.1 rfl (lv_room (Nat.le_of_ble_eq_true rfl)) dX4_rake_148 ⟨Nat.le_of_ble_eq_true rfl, Nat.le_of_ble_eq_true rfl⟩) hS hP hD hA (List.Perm.refl _) (fun _ => List.Perm.refl _) (fun x_148 u_148 H locs hw_148 hP hD hS => ?_)
          obtain ⟨L2_148, f2_148⟩ := u_148
          have hP : va_P D vwCl ([(t0, .inr (4, [.ref lw, .ref rk, .ref hs, .ref em, .int mt, .int qn]))] ++ va_pl L2_148 f2_148) H := hP
          have hD : va_D A ([(t0, .inr (4, [.ref lw, .ref rk, .ref hs, .ref em, .int mt, .int qn]))] ++ va_pl L2_148 f2_148) := hD
          have hw_148 : (pExt L f L2_148 f2_148) ∧ (x_148 ∈ L2_148) ∧ (x_148 ∉ L) ∧ (rowE cI ((R h 0).filter (fun y => decide (y ≠ ((R h 0).getD 0 0)))) (f2_148 x_148)) := hw_148
          obtain ⟨e_148, i_148, o_148, v_148⟩ := hw_148
          have hwn : ((R h 0).getD 0 0) < n := hRn2 _ (getD_in hne2)
          obtain ⟨gw, hfw, hgw⟩ := id v_148
          refine pl_aast hx hb hK hP hD hS (e_148 _ ha1).1 ((e_148 _ ha1).2.trans ha3) (pl_mem i_148 hfw) (comp_J hK hT) v_138 (0) (by omega) (by omega) (by omega) dX4_rake_151 (fun f_151 H locs e_151 hP hD hS => ?_)
          have hP : va_P D vwCl ([(t0, .inr (4, [.ref lw, .ref rk, .ref hs, .ref em, .int mt, .int qn]))] ++ va_pl L2_148 (va_up f2_148 (ha h) (.inl (cJ, 11, .inr (.inr (.inr (.inr f_151))))))) H := hP
          have hD : va_D A ([(t0, .inr (4, [.ref lw, .ref rk, .ref hs, .ref em, .int mt, .int qn]))] ++ va_pl L2_148 (va_up f2_148 (ha h) (.inl (cJ, 11, .inr (.inr (.inr (.inr f_151))))))) := hD
          have hS5 := SimK.row (qS.ext e_148) i_148 (if_neg o_148) v_148 hh2 (show 0 < 11 by omega) ((e_148 _ ha1).2.trans ha3) e_151 rfl
          obtain ⟨-, -, -, ⟨em1, em2, ge, em3, em4⟩, -, -, q7⟩ := id hS5
          obtain ⟨ea1, ea2, gx, ea3, ea4, ea5, ea6⟩ := q7 _ hwn
          refine lv_aload_n hx hb dX4_rake_152 rfl (lv_at hl 2 rfl) ?_
          refine va_get (D := D) (ci := 4) (v := .ref em) (C := RX4) (T := TX4) (N := 6) hx hb hts iX4 hown hK hP 0 rfl rfl 3 (by decide) (hts _ qw620) (fun _ h9 => h9) rfl dX4_rake_153 ?_
          refine lv_iload_n hx hb dX4_rake_156 rfl (lv_at hl 0 rfl) ?_
          refine rd_aald hx hb hK hP 2 (pl_mem em1 em3) rfl v_130 (((R h 0).getD 0 0)) (by omega) (by omega) (by omega) (em4 _ (by omega)) dX4_rake_157 ?_
          refine lz_iconst hx hb dX4_rake_158 (fun x_158 v_158 => ?_)
          refine lz_iconst hx hb dX4_rake_159 (fun x_159 v_159 => ?_)
          refine pl_iast hx hb hK hP hD hS 0 ea1 ea3 rfl v_158 (2) (by omega) (by omega) (by omega) dX4_rake_160 (fun f_160 H locs e_160 hP hD hS => ?_)
          have hP : va_P D vwCl ([(t0, .inr (4, [.ref lw, .ref rk, .ref hs, .ref em, .int mt, .int qn]))] ++ va_pl L2_148 (va_up (va_up f2_148 (ha h) (.inl (cJ, 11, .inr (.inr (.inr (.inr f_151)))))) (ea ((R h 0).getD 0 0)) (.inl (cI, 3, .inl f_160)))) H := hP
          have hD : va_D A ([(t0, .inr (4, [.ref lw, .ref rk, .ref hs, .ref em, .int mt, .int qn]))] ++ va_pl L2_148 (va_up (va_up f2_148 (ha h) (.inl (cJ, 11, .inr (.inr (.inr (.inr f_151)))))) (ea ((R h 0).getD 0 0)) (.inl (cI, 3, .inl f_160)))) := hD
          have hS6 := SimK.emb (g2 := f_160) (Hh2 := Hh) (mv2 := mv) (rv2 := va_up rv ((R h 0).getD 0 0) 1) hS5 hwn rfl (by rw [e_160, upd_n _ _ (by omega)]; exact ea4) (by rw [e_160, upd_n _ _ (by omega)]; exact ea5) (by rw [e_160, upd_s, va_up_self]; exact v_159) (fun e he => ⟨rfl, rfl, va_up_ne _ _ he⟩)
          obtain ⟨-, ⟨rk1, rk2, gg, rk3, rk4⟩, -⟩ := id hS6
          refine lv_aload_n hx hb dX4_rake_161 rfl (lv_at hl 2 rfl) ?_
          refine va_get (D := D) (ci := 4) (v := .ref rk) (C := RX4) (T := TX4) (N := 6) hx hb hts iX4 hown hK hP 0 rfl rfl 1 (by decide) (hts _ qw618) (fun _ h9 => h9) rfl dX4_rake_162 ?_
          refine lv_iload_n hx hb dX4_rake_165 rfl (lv_at hl 3 rfl) ?_
          refine lv_dup2_11 hx hb dX4_rake_166 rfl rfl ?_
          refine rd_iald hx hb hK hP 0 (pl_mem rk1 rk3) rfl hhv (h) (by omega) (by omega) (by omega) dX4_rake_167 (fun x_167 e_167 => ?_)
          refine lz_iconst hx hb dX4_rake_168 (fun x_168 v_168 => ?_)
          refine lv_iadd hx hb dX4_rake_169 ?_
          refine lv_topi (fun x_169 e_169 => ?_)
          refine pl_iast hx hb hK hP hD hS 0 rk1 rk3 rfl hhv (h) (by omega) (by omega) (by omega) dX4_rake_170 (fun f_170 H locs e_170 hP hD hS => ?_)
          have hP : va_P D vwCl ([(t0, .inr (4, [.ref lw, .ref rk, .ref hs, .ref em, .int mt, .int qn]))] ++ va_pl L2_148 (va_up (va_up (va_up f2_148 (ha h) (.inl (cJ, 11, .inr (.inr (.inr (.inr f_151)))))) (ea ((R h 0).getD 0 0)) (.inl (cI, 3, .inl f_160))) rk (.inl (cI, 2, .inl f_170)))) H := hP
          have hD : va_D A ([(t0, .inr (4, [.ref lw, .ref rk, .ref hs, .ref em, .int mt, .int qn]))] ++ va_pl L2_148 (va_up (va_up (va_up f2_148 (ha h) (.inl (cJ, 11, .inr (.inr (.inr (.inr f_151)))))) (ea ((R h 0).getD 0 0)) (.inl (cI, 3, .inl f_160))) rk (.inl (cI, 2, .inl f_170)))) := hD
          refine lv_iload_n hx hb dX4_rake_171 rfl (lv_at hl 0 rfl) ?_
          have hP9 := hP
          have hD9 := hD
          refine W.widen (k := 82) (n := 3240) (by omega) (by omega) ?_
          exact W.iret (v := x_130) hx hb hr (fun t ht hW => ⟨⟨x_130, ⟨L2_148, (va_up (va_up (va_up f2_148 (ha h) (.inl (cJ, 11, .inr (.inr (.inr (.inr f_151)))))) (ea ((R h 0).getD 0 0)) (.inl (cI, 3, .inl f_160))) rk (.inl (cI, 2, .inl f_170)))⟩, rfl, ⟨v_130, by have h9 := SimK.gks hS6 rk3 e_170 rfl; rw [e_169, e_167, rk4 h hh2, v_168] at h9; exact h9.P⟩, ⟨by rw [ht]; exact hP9, hD9⟩⟩, hS.F ht⟩) hS.2.2 dX4_rake_172
        · exfalso; omega
      · refine lz_iinc (lv2 := fun z => [(2, .int z), (0, .ref t0), (1, .int h0)]) hx hb dX4_rake_14 hl (k := 0) rfl hib (by decide) (fun _ => rfl) (fun x_14 ls v_14 hl => ?_)
        refine lv_goto (tgt := 2) hx hb dX4_rake_17 (by decide) ?_
        exact ih2 (b9 + 1) x_14 _ _ _ (by omega) (v_14.trans (congrArg iI (by omega))) (by rcases Nat.lt_or_ge b9 b0 with q | q; exact q; rw [show b9 = b0 by omega] at c_11; omega) hP hD hS (lv_sub hl [0, 1, 2] rfl)
  exact key2 _ 0 x_0 _ _ _ (Nat.lt_succ_self _) (v_0.trans (congrArg iI (by omega))) (Nat.zero_le _) hP hD hS (lv_sub hl [0, 1, 2] rfl)
set_option maxHeartbeats 4000000 in
set_option maxRecDepth 100000 in
theorem k_X4_rake_p (l : Launch) (D : va_G) (cI cZ cJ cK : ClassId) (hz9 : Nat) (t0 : Nat) (h0 : Int32) (lw : Nat) (rk : Nat) (hs : Nat) (em : Nat) (mt : Int32) (qn : Int32) (L : List Nat) (f : Nat → va_E) (h b0 : Nat) (n : Nat) (Hh : Nat → Nat) (mv : Nat → Int32) (rv : Nat → Int) (lo : Nat → Nat) (gk : Nat → Int32) (R : Nat → Nat → List Nat) (hSP : SimP cI cJ cK n Hh mv rv lo gk R lw rk hs em L f) (hhv : h0 = iI ↑h) (hh2 : h < 2) (hb11 : b0 < 11) (hb0 : 0 < b0) (hemp : ∀ j, j < b0 → R h j = []) (hne : 0 < (R h b0).length) (hn4 : n ≤ 40) (hne2 : 0 < ((mvR (ka (minL Hh (R h b0)) Hh) h (va_up R h (va_up (R h) b0 [])) (R h b0)) h 0).length) (hRn2 : ∀ x ∈ (mvR (ka (minL Hh (R h b0)) Hh) h (va_up R h (va_up (R h) b0 [])) (R h b0)) h 0, x < n) (hl2 : ((mvR (ka (minL Hh (R h b0)) Hh) h (va_up R h (va_up (R h) b0 [])) (R h b0)) h 0).length ≤ 40) (hBn : ∀ x ∈ (R h b0), x < n) (hHn : ∀ e, e < n → Hh e < 1024) (hlen : ∀ b, b < 11 → ((va_up R h (va_up (R h) b0 [])) h b).length + (R h b0).length ≤ 40) (hBl : (R h b0).length ≤ 40) (hRl : ∀ b, b < 11 → (R h b).length ≤ 40) : Met l yX4_rake (ws_ yX4_rake cX4_rake 8 (Option.some .int)) ({ frames := 3, cells := 82, slots := 3240, locals := 72 }) (va_Pc [.ref t0, .int h0] (wPre D cI cZ cJ cK hz9 ([(t0, .inr (4, [.ref lw, .ref rk, .ref hs, .ref em, .int mt, .int qn]))] ++ va_pl L f))) (va_Qi (fun r (u : Int32 × List Nat × (Nat → va_E)) => (r = iI (↑(((mvR (ka (minL Hh (R h b0)) Hh) h (va_up R h (va_up (R h) b0 [])) (R h b0)) h 0).getD 0 0))) ∧ (SimP cI cJ cK n Hh (mvA 1 mv (R h b0)) (va_up rv (((mvR (ka (minL Hh (R h b0)) Hh) h (va_up R h (va_up (R h) b0 [])) (R h b0)) h 0).getD 0 0) 1) (va_up lo h (minL Hh (R h b0))) (upd gk h (gk h + iI 1)) (va_up (mvR (ka (minL Hh (R h b0)) Hh) h (va_up R h (va_up (R h) b0 [])) (R h b0)) h (va_up ((mvR (ka (minL Hh (R h b0)) Hh) h (va_up R h (va_up (R h) b0 [])) (R h b0)) h) 0 (((mvR (ka (minL Hh (R h b0)) Hh) h (va_up R h (va_up (R h) b0 [])) (R h b0)) h 0).filter (fun y => decide (y ≠ (((mvR (ka (minL Hh (R h b0)) Hh) h (va_up R h (va_up (R h) b0 [])) (R h b0)) h 0).getD 0 0)))))) lw rk hs em u.2.1 u.2.2) ∧ (u.1 = mt + iI ↑(R h b0).length)) (fun (u : Int32 × List Nat × (Nat → va_E)) t => wPost D (va_A ([(t0, .inr (4, [.ref lw, .ref rk, .ref hs, .ref em, .int mt, .int qn]))] ++ va_pl L f) hz9) ([(t0, .inr (4, [.ref lw, .ref rk, .ref hs, .ref em, .int u.1, .int qn]))] ++ va_pl u.2.1 u.2.2) t) (va_A ([(t0, .inr (4, [.ref lw, .ref rk, .ref hs, .ref em, .int mt, .int qn]))] ++ va_pl L f) hz9)) 82 3240 (va_A ([(t0, .inr (4, [.ref lw, .ref rk, .ref hs, .ref em, .int mt, .int qn]))] ++ va_pl L f) hz9) := by
  refine Met.ofW (cc := cX4_rake) (maxL := 8) (ret := (Option.some .int)) (by decide) rfl ?_
  intro p e s m args below meth c s₁ hBd hml hv
  obtain ⟨rfl, hsz, hP, hD, hK, hT, hZ⟩ := hv
  have hx := hBd.exec
  have hb := hBd.bytes
  have hr := hBd.returns
  have hts : ∀ w ∈ lw_G, w.before _ s = true := fun w h => atoms_spec (ws := (ws_ yX4_rake cX4_rake 8 (Option.some .int))) hBd.pre w (List.mem_cons_of_mem _ h)
  have hown : s.vm.findClass RX4 = some m.cls := findClass_of_methodNamed hBd.named
  have hlocks := hBd.notSynchronized
  subst hsz
  have hD := hD.self (sz := s.heap.size)
  have hZA := hZ.own hP
  generalize hAe : va_A ([(t0, .inr (4, [.ref lw, .ref rk, .ref hs, .ref em, .int mt, .int qn]))] ++ va_pl L f) s.heap.size = A at hD hZA ⊢
  have hA : ∀ q : Nat, s.heap.size ≤ q → A q := fun q h => by rw [← hAe]; exact Or.inr h
  have hZ := hZA
  have hS : va_S A s.heap s.heap [] := va_S.rf
  have hl := lv_entry ([.ref t0, .int h0]) (n := 8) (Nat.le_of_ble_eq_true rfl)
  rw [lg_entry_eq]
  generalize (lg_sl ([.ref t0, .int h0]) ++ List.replicate (8 - (lg_sl ([.ref t0, .int h0])).length) Slot.unset).toArray = ls at hl ⊢
  have hl : lv_has ls 8 [(0, .ref t0), (1, .int h0)] := hl
  have hP : va_P D vwCl ([(t0, .inr (4, [.ref lw, .ref rk, .ref hs, .ref em, .int mt, .int qn]))] ++ va_pl L f) s.heap := hP
  obtain ⟨K, ha, ea, rr, qS⟩ := id hSP
  obtain ⟨⟨lw1, lw2, gl, lw3, lw4⟩, ⟨rk1, rk2, gg, rk3, rk4⟩, ⟨hs1, hs2, gs, hs3, hs4⟩, ⟨em1, em2, ge, em3, em4⟩, q5, q6, q7⟩ := id qS
  obtain ⟨ha1, ha2, gh, ha3, ha4⟩ := q5 h hh2
  obtain ⟨rb1, rb2, rb3⟩ := q6 h b0 hh2 hb11
  generalize hw9 : rr h b0 = w9 at rb1 rb2 rb3
  obtain ⟨gr, rb4, rb5⟩ := id rb3
  refine lz_iconst hx hb dX4_rake_0 (fun x_0 v_0 => ?_)
  refine lv_istore_n (lv' := [(2, .int x_0), (0, .ref t0), (1, .int h0)]) hx hb dX4_rake_1 rfl hl (by decide) rfl (fun ls hl => ?_)
  have key2 : ∀ (fu : Nat) (b9 : Nat) (bb : Int32) (H : Heap) (locs : List Loc) (ls : Array Slot), b0 + 1 - b9 < fu → (bb = iI (↑b9)) → (b9 ≤ b0) → va_P D vwCl ([(t0, .inr (4, [.ref lw, .ref rk, .ref hs, .ref em, .int mt, .int qn]))] ++ va_pl L f) H → va_D A ([(t0, .inr (4, [.ref lw, .ref rk, .ref hs, .ref em, .int mt, .int qn]))] ++ va_pl L f) → va_S A s.heap H locs → lv_has ls 8 [(2, .int bb), (0, .ref t0), (1, .int h0)] → W p l e (headSpec (ws_ yX4_rake cX4_rake 8 (Option.some .int)) ({ frames := 3, cells := 82, slots := 3240, locals := 72 })).room s m ([.ref t0, .int h0] : List Value).toArray below meth c H locs 0 0 (MQ below (va_Qi (fun r (u : Int32 × List Nat × (Nat → va_E)) => (r = iI (↑(((mvR (ka (minL Hh (R h b0)) Hh) h (va_up R h (va_up (R h) b0 [])) (R h b0)) h 0).getD 0 0))) ∧ (SimP cI cJ cK n Hh (mvA 1 mv (R h b0)) (va_up rv (((mvR (ka (minL Hh (R h b0)) Hh) h (va_up R h (va_up (R h) b0 [])) (R h b0)) h 0).getD 0 0) 1) (va_up lo h (minL Hh (R h b0))) (upd gk h (gk h + iI 1)) (va_up (mvR (ka (minL Hh (R h b0)) Hh) h (va_up R h (va_up (R h) b0 [])) (R h b0)) h (va_up ((mvR (ka (minL Hh (R h b0)) Hh) h (va_up R h (va_up (R h) b0 [])) (R h b0)) h) 0 (((mvR (ka (minL Hh (R h b0)) Hh) h (va_up R h (va_up (R h) b0 [])) (R h b0)) h 0).filter (fun y => decide (y ≠ (((mvR (ka (minL Hh (R h b0)) Hh) h (va_up R h (va_up (R h) b0 [])) (R h b0)) h 0).getD 0 0)))))) lw rk hs em u.2.1 u.2.2) ∧ (u.1 = mt + iI ↑(R h b0).length)) (fun (u : Int32 × List Nat × (Nat → va_E)) t => wPost D A ([(t0, .inr (4, [.ref lw, .ref rk, .ref hs, .ref em, .int u.1, .int qn]))] ++ va_pl u.2.1 u.2.2) t) A) ([.ref t0, .int h0] : List Value).toArray s 82 3240 A) (F0 m 2 ls []) := by
    intro fu
    induction fu with
    | zero => intros; omega
    | succ fu ih2 =>
      intro b9 bb H locs ls hfu hib hlb hP hD hS hl
      refine lv_aload_n hx hb dX4_rake_2 rfl (lv_at hl 1 rfl) ?_
      refine va_get (D := D) (ci := 4) (v := .ref hs) (C := RX4) (T := TX4) (N := 6) hx hb hts iX4 hown hK hP 0 rfl rfl 2 (by decide) (hts _ qw619) (fun _ h9 => h9) rfl dX4_rake_3 ?_
      refine lv_iload_n hx hb dX4_rake_6 rfl (lv_at hl 2 rfl) ?_
      refine rd_aald hx hb hK hP 3 (pl_mem hs1 hs3) rfl hhv (h) (by omega) (by omega) (by omega) (hs4 _ (by omega)) dX4_rake_7 ?_
      refine lv_iload_n hx hb dX4_rake_8 rfl (lv_at hl 0 rfl) ?_
      obtain ⟨rc1, rc2, gc, rc4, rc5⟩ := q6 h b9 hh2 (by omega)
      have hRl9 := hRl b9 (by omega)
      refine rd_aald hx hb hK hP 2 (pl_mem ha1 ha3) rfl hib (b9) (by omega) (by omega) (by omega) (ha4 _ (by omega)) dX4_rake_9 ?_
      refine rd_alen hx hb hK hP 0 (pl_mem rc1 rc4) rfl dX4_rake_10 (fun x_10 v_10 => ?_)
      have v_10 : x_10 = iI (↑((R h b9).length)) := v_10
      refine lz_if_ne (tgt := 20) hx hb v_10 (by omega) dX4_rake_11 (by decide) (fun c_11 => ?_) (fun c_11 => ?_)
      · have hbe : b9 = b0 := by
          rcases Nat.lt_or_ge b9 b0 with q | q
          · rw [hemp b9 q] at c_11; exact absurd rfl c_11
          · omega
        have hib0 : bb = iI (↑b0) := hib.trans (by rw [hbe])
        refine lv_iload_n hx hb dX4_rake_20 rfl (lv_at hl 0 rfl) ?_
        refine lz_if_le (tgt := 121) hx hb hib0 (by omega) dX4_rake_21 (by decide) (fun c_21 => ?_) (fun c_21 => ?_)
        · exfalso; omega
        · refine lv_aload_n hx hb dX4_rake_24 rfl (lv_at hl 1 rfl) ?_
          refine va_get (D := D) (ci := 4) (v := .ref hs) (C := RX4) (T := TX4) (N := 6) hx hb hts iX4 hown hK hP 0 rfl rfl 2 (by decide) (hts _ qw619) (fun _ h9 => h9) rfl dX4_rake_25 ?_
          refine lv_iload_n hx hb dX4_rake_28 rfl (lv_at hl 2 rfl) ?_
          refine rd_aald hx hb hK hP 3 (pl_mem hs1 hs3) rfl hhv (h) (by omega) (by omega) (by omega) (hs4 _ (by omega)) dX4_rake_29 ?_
          refine lv_iload_n hx hb dX4_rake_30 rfl (lv_at hl 0 rfl) ?_
          refine rd_aald hx hb hK hP 2 (pl_mem ha1 ha3) rfl hib0 (b0) (by omega) (by omega) (by omega) (((ha4 b0 hb11).trans (congrArg some hw9))) dX4_rake_31 ?_
          refine lv_astore_n (lv' := [(3, .ref w9), (2, .int bb), (0, .ref t0), (1, .int h0)]) hx hb dX4_rake_32 rfl hl (by decide) rfl (fun ls hl => ?_)
          refine lv_aload_n hx hb dX4_rake_33 rfl (lv_at hl 2 rfl) ?_
          refine va_get (D := D) (ci := 4) (v := .ref hs) (C := RX4) (T := TX4) (N := 6) hx hb hts iX4 hown hK hP 0 rfl rfl 2 (by decide) (hts _ qw619) (fun _ h9 => h9) rfl dX4_rake_34 ?_
          refine lv_iload_n hx hb dX4_rake_37 rfl (lv_at hl 3 rfl) ?_
          refine rd_aald hx hb hK hP 3 (pl_mem hs1 hs3) rfl hhv (h) (by omega) (by omega) (by omega) (hs4 _ (by omega)) dX4_rake_38 ?_
          refine lv_iload_n hx hb dX4_rake_39 rfl (lv_at hl 1 rfl) ?_
          refine lz_iconst hx hb dX4_rake_40 (fun x_40 v_40 => ?_)
          refine pl_new hx hb (hts _ qw53) 0 rfl hK hP hD hS hA v_40 (0) (by omega) (by omega) (Nat.le_of_ble_eq_true rfl) (Nat.le_of_ble_eq_true rfl) dX4_rake_41 (fun n_41 H hq_41 hP hD hS => ?_)
          have hP : va_P D vwCl ([(t0, .inr (4, [.ref lw, .ref rk, .ref hs, .ref em, .int mt, .int qn]))] ++ va_pl (L ++ [n_41]) (va_up f n_41 (.inl (cI, 0, .inl (fun _ => 0))))) H := hP
          have hD : va_D A ([(t0, .inr (4, [.ref lw, .ref rk, .ref hs, .ref em, .int mt, .int qn]))] ++ va_pl (L ++ [n_41]) (va_up f n_41 (.inl (cI, 0, .inl (fun _ => 0))))) := hD
          have hn_hs_n_41 : hs ≠ n_41 := fun z => hq_41 (by rw [← z]; exact hs1)
          have hn__ha_h__n_41 : (ha h) ≠ n_41 := fun z => hq_41 (by rw [← z]; exact ha1)
          have hn__rr_h_b9__n_41 : (rr h b9) ≠ n_41 := fun z => hq_41 (by rw [← z]; exact rc1)
          refine pl_aast hx hb hK hP hD hS (List.mem_append_left _ ha1) ((va_up_ne _ _ hn__ha_h__n_41).trans ha3) (pl_mem (List.mem_append_right _ List.mem_cons_self) (va_up_self _ _ _)) (comp_J hK hT) hib0 (b0) (by omega) (by omega) (by omega) dX4_rake_43 (fun f_43 H locs e_43 hP hD hS => ?_)
          have hP : va_P D vwCl ([(t0, .inr (4, [.ref lw, .ref rk, .ref hs, .ref em, .int mt, .int qn]))] ++ va_pl (L ++ [n_41]) (va_up (va_up f n_41 (.inl (cI, 0, .inl (fun _ => 0)))) (ha h) (.inl (cJ, 11, .inr (.inr (.inr (.inr f_43))))))) H := hP
          have hD : va_D A ([(t0, .inr (4, [.ref lw, .ref rk, .ref hs, .ref em, .int mt, .int qn]))] ++ va_pl (L ++ [n_41]) (va_up (va_up f n_41 (.inl (cI, 0, .inl (fun _ => 0)))) (ha h) (.inl (cJ, 11, .inr (.inr (.inr (.inr f_43))))))) := hD
          have hSQ1 : SimQ cI cJ cK n Hh mv rv lo gk (va_up R h (va_up (R h) b0 [])) lw rk hs em (L ++ [n_41]) (va_up (va_up f n_41 (.inl (cI, 0, .inl (fun _ => 0)))) (ha h) (.inl (cJ, 11, .inr (.inr (.inr (.inr f_43)))))) w9 (R h b0) := SimQ_put qS rb1 rb2 rb3 (pExt.new hq_41) (List.mem_append_right _ List.mem_cons_self) hq_41 ⟨fun _ => 0, va_up_self _ _ _, fun j hj => absurd hj (Nat.not_lt_zero j)⟩ hh2 hb11 ha3 e_43 rfl
          generalize (va_up (va_up f n_41 (.inl (cI, 0, .inl (fun _ => 0)))) (ha h) (.inl (cJ, 11, .inr (.inr (.inr (.inr f_43)))))) = fx at hP hD hSQ1
          have hx1 := hBn _ (getD_in hne)
          have hH1 := hHn _ hx1
          clear qS rb1 rb2 rb3 rb4
          obtain ⟨K, ha, ea, rr, qS, qw, qk, qM⟩ := id hSQ1
          obtain ⟨⟨lw1, lw2, gl, lw3, lw4⟩, ⟨rk1, rk2, gg, rk3, rk4⟩, ⟨hs1, hs2, gs, hs3, hs4⟩, ⟨em1, em2, ge, em3, em4⟩, q5, q6, q7⟩ := id qS
          obtain ⟨gb, hfb, hgb⟩ := id qM
          obtain ⟨ea1, ea2, gx, ea3, ea4, ea5, ea6⟩ := q7 _ hx1
          refine lv_aload_n hx hb dX4_rake_44 rfl (lv_at hl 2 rfl) ?_
          refine va_get (D := D) (ci := 4) (v := .ref lw) (C := RX4) (T := TX4) (N := 6) hx hb hts iX4 hown hK hP 0 rfl rfl 0 (by decide) (hts _ qw616) (fun _ h9 => h9) rfl dX4_rake_45 ?_
          refine lv_iload_n hx hb dX4_rake_48 rfl (lv_at hl 3 rfl) ?_
          refine lv_aload_n hx hb dX4_rake_49 rfl (lv_at hl 2 rfl) ?_
          refine va_get (D := D) (ci := 4) (v := .ref em) (C := RX4) (T := TX4) (N := 6) hx hb hts iX4 hown hK hP 0 rfl rfl 3 (by decide) (hts _ qw620) (fun _ h9 => h9) rfl dX4_rake_50 ?_
          refine lv_aload_n hx hb dX4_rake_53 rfl (lv_at hl 0 rfl) ?_
          refine lz_iconst hx hb dX4_rake_54 (fun x_54 v_54 => ?_)
          refine rd_iald hx hb hK hP 0 (pl_mem qw hfb) rfl v_54 (0) (by omega) (by omega) (by omega) dX4_rake_55 (fun x_55 e_55 => ?_)
          have v_55 : x_55 = iI (↑((R h b0).getD 0 0)) := e_55.trans (hgb _ (by omega))
          refine rd_aald hx hb hK hP 2 (pl_mem em1 em3) rfl v_55 (((R h b0).getD 0 0)) (by omega) (by omega) (by omega) (em4 _ (by omega)) dX4_rake_56 ?_
          refine lz_iconst hx hb dX4_rake_57 (fun x_57 v_57 => ?_)
          refine rd_iald hx hb hK hP 0 (pl_mem ea1 ea3) rfl v_57 (0) (by omega) (by omega) (by omega) dX4_rake_58 (fun x_58 e_58 => ?_)
          have v_58 : x_58 = iI (↑(Hh ((R h b0).getD 0 0))) := e_58.trans (ea4)
          refine pl_iast hx hb hK hP hD hS 0 lw1 lw3 rfl hhv (h) (by omega) (by omega) (by omega) dX4_rake_59 (fun f_59 H locs e_59 hP hD hS => ?_)
          have hP : va_P D vwCl ([(t0, .inr (4, [.ref lw, .ref rk, .ref hs, .ref em, .int mt, .int qn]))] ++ va_pl (L ++ [n_41]) (va_up fx lw (.inl (cI, 2, .inl f_59)))) H := hP
          have hD : va_D A ([(t0, .inr (4, [.ref lw, .ref rk, .ref hs, .ref em, .int mt, .int qn]))] ++ va_pl (L ++ [n_41]) (va_up fx lw (.inl (cI, 2, .inl f_59)))) := hD
          have hSQ2 : SimQ cI cJ cK n Hh mv rv (va_up lo h (Hh ((R h b0).getD 0 0))) gk (va_up R h (va_up (R h) b0 [])) lw rk hs em (L ++ [n_41]) (va_up fx lw (.inl (cI, 2, .inl f_59))) w9 (R h b0) := SimQ_low qS qw qk qM lw3 e_59 v_58
          clear qS qw qk qM
          obtain ⟨K, ha, ea, rr, qS, qw, qk, qM⟩ := id hSQ2
          obtain ⟨gb, hfb, hgb⟩ := id qM
          refine lv_aload_n hx hb dX4_rake_60 rfl (lv_at hl 0 rfl) ?_
          refine lv_astore (lv' := [(4, .ref w9), (3, .ref w9), (2, .int bb), (0, .ref t0), (1, .int h0)]) hx hb dX4_rake_61 hl (by decide) rfl (fun ls hl => ?_)
          refine lv_aload hx hb dX4_rake_63 (lv_at hl 0 rfl) ?_
          refine rd_alen hx hb hK hP 0 (pl_mem qw hfb) rfl dX4_rake_65 (fun x_65 v_65 => ?_)
          have v_65 : x_65 = iI (↑((R h b0).length)) := v_65
          refine lv_istore (lv' := [(5, .int x_65), (4, .ref w9), (3, .ref w9), (2, .int bb), (0, .ref t0), (1, .int h0)]) hx hb dX4_rake_66 hl (by decide) rfl (fun ls hl => ?_)
          refine lz_iconst hx hb dX4_rake_68 (fun x_68 v_68 => ?_)
          refine lv_istore (lv' := [(6, .int x_68), (5, .int x_65), (4, .ref w9), (3, .ref w9), (2, .int bb), (0, .ref t0), (1, .int h0)]) hx hb dX4_rake_69 hl (by decide) rfl (fun ls hl => ?_)
          have key71 : ∀ (fu : Nat) (i : Nat) (ii : Int32) (Li : List Nat) (fi : Nat → va_E) (H : Heap) (locs : List Loc) (ls : Array Slot), (R h b0).length + 1 - i < fu → (ii = iI (↑i)) → (i ≤ (R h b0).length) → (SimQ cI cJ cK n Hh mv rv (va_up lo h (min (Hh ((R h b0).getD 0 0)) (minL Hh ((R h b0).take i)))) gk (va_up R h (va_up (R h) b0 [])) lw rk hs em Li fi w9 (R h b0)) → va_P D vwCl ([(t0, .inr (4, [.ref lw, .ref rk, .ref hs, .ref em, .int mt, .int qn]))] ++ va_pl Li fi) H → va_D A ([(t0, .inr (4, [.ref lw, .ref rk, .ref hs, .ref em, .int mt, .int qn]))] ++ va_pl Li fi) → va_S A s.heap H locs → lv_has ls 8 [(6, .int ii), (5, .int x_65), (4, .ref w9), (3, .ref w9), (2, .int bb), (0, .ref t0), (1, .int h0)] → W p l e (headSpec (ws_ yX4_rake cX4_rake 8 (Option.some .int)) ({ frames := 3, cells := 82, slots := 3240, locals := 72 })).room s m ([.ref t0, .int h0] : List Value).toArray below meth c H locs 1 0 (MQ below (va_Qi (fun r (u : Int32 × List Nat × (Nat → va_E)) => (r = iI (↑(((mvR (ka (minL Hh (R h b0)) Hh) h (va_up R h (va_up (R h) b0 [])) (R h b0)) h 0).getD 0 0))) ∧ (SimP cI cJ cK n Hh (mvA 1 mv (R h b0)) (va_up rv (((mvR (ka (minL Hh (R h b0)) Hh) h (va_up R h (va_up (R h) b0 [])) (R h b0)) h 0).getD 0 0) 1) (va_up lo h (minL Hh (R h b0))) (upd gk h (gk h + iI 1)) (va_up (mvR (ka (minL Hh (R h b0)) Hh) h (va_up R h (va_up (R h) b0 [])) (R h b0)) h (va_up ((mvR (ka (minL Hh (R h b0)) Hh) h (va_up R h (va_up (R h) b0 [])) (R h b0)) h) 0 (((mvR (ka (minL Hh (R h b0)) Hh) h (va_up R h (va_up (R h) b0 [])) (R h b0)) h 0).filter (fun y => decide (y ≠ (((mvR (ka (minL Hh (R h b0)) Hh) h (va_up R h (va_up (R h) b0 [])) (R h b0)) h 0).getD 0 0)))))) lw rk hs em u.2.1 u.2.2) ∧ (u.1 = mt + iI ↑(R h b0).length)) (fun (u : Int32 × List Nat × (Nat → va_E)) t => wPost D A ([(t0, .inr (4, [.ref lw, .ref rk, .ref hs, .ref em, .int u.1, .int qn]))] ++ va_pl u.2.1 u.2.2) t) A) ([.ref t0, .int h0] : List Value).toArray s 82 3240 A) (F0 m 71 ls []) := by
            intro fu
            induction fu with
            | zero => intros; omega
            | succ fu ih71 =>
              intro i ii Li fi H locs ls hfu hi hle hSQ3 hP hD hS hl
              clear qS qw qk qM
              obtain ⟨K, ha, ea, rr, qS, qw, qk, qM⟩ := id hSQ3
              obtain ⟨⟨lw1, lw2, gl, lw3, lw4⟩, ⟨rk1, rk2, gg, rk3, rk4⟩, ⟨hs1, hs2, gs, hs3, hs4⟩, ⟨em1, em2, ge, em3, em4⟩, q5, q6, q7⟩ := id qS
              obtain ⟨gb, hfb, hgb⟩ := id qM
              refine lv_iload hx hb dX4_rake_71 (lv_at hl 0 rfl) ?_
              refine lv_iload hx hb dX4_rake_73 (lv_at hl 1 rfl) ?_
              refine lz_icmp_ge (tgt := 115) hx hb hi v_65 ⟨by omega, by omega⟩ dX4_rake_75 (by decide) (fun c_75 => ?_) (fun c_75 => ?_)
              · have hSQ4 : SimQ cI cJ cK n Hh mv rv (va_up lo h (minL Hh (R h b0))) gk (va_up R h (va_up (R h) b0 [])) lw rk hs em Li fi w9 (R h b0) := by
                  rw [take_all (show (R h b0).length ≤ i by omega), min_hd hne] at hSQ3
                  exact hSQ3
                refine lv_aload_n hx hb dX4_rake_115 rfl (lv_at hl 5 rfl) ?_
                refine lv_iload_n hx hb dX4_rake_116 rfl (lv_at hl 6 rfl) ?_
                refine lv_aload_n hx hb dX4_rake_117 rfl (lv_at hl 3 rfl) ?_
                refine cp_v (wr := []) (ws2 := fun u9 => ([(t0, .inr (4, [.ref lw, .ref rk, .ref hs, .ref em, .int u9.1, .int qn]))] ++ va_pl u9.2.1 u9.2.2)) (va_runV (As := [.int h0, .ref w9]) (rest := []) ⟨hx, hb, hml, hown, hts⟩ (k_X4_move l D cI cZ cJ cK _ t0 h0 w9 lw rk hs em mt qn Li fi h n Hh mv rv (va_up lo h (minL Hh (R h b0))) gk (va_up R h (va_up (R h) b0 [])) (R h b0) (hSQ4) (hhv.trans (congrArg iI (by omega))) (hh2) (hn4) (by rw [va_up_self]; have := minL_top Hh (R h b0); omega) (hBn) (fun x hx9 => hHn x (hBn x hx9)) (hlen) (hBl)) (cwV 2 hts (gV qw464 qw465 qw466 qw14 qw467) rfl rfl rfl (by decide +kernel) ⟨Nat.le_of_ble_eq_true rfl, Nat.le_of_ble_eq_true rfl⟩) (pvP (ci := 4) (r := (RX4, TX4, 6)) (q0 := 0) (wr := []) hP hD hK hT hZ hS (List.Perm.refl _) rfl rfl) rfl rfl hl.1 rfl (lv_room (Nat.le_of_ble_eq_true rfl)) dX4_rake_118 ⟨Nat.le_of_ble_eq_true rfl, Nat.le_of_ble_eq_true rfl⟩) hS hP hD hA (List.Perm.refl _) (fun _ => List.Perm.refl _) (fun u_118 H locs hw_118 hP hD hS => ?_)
                obtain ⟨m2_118, L2_118, f2_118⟩ := u_118
                have hP : va_P D vwCl ([(t0, .inr (4, [.ref lw, .ref rk, .ref hs, .ref em, .int m2_118, .int qn]))] ++ va_pl L2_118 f2_118) H := hP
                have hD : va_D A ([(t0, .inr (4, [.ref lw, .ref rk, .ref hs, .ref em, .int m2_118, .int qn]))] ++ va_pl L2_118 f2_118) := hD
                have hw_118 : (SimQ cI cJ cK n Hh (mvA 1 mv (R h b0)) rv (va_up lo h (minL Hh (R h b0))) gk (mvR (ka ((va_up lo h (minL Hh (R h b0))) h) Hh) h (va_up R h (va_up (R h) b0 [])) (R h b0)) lw rk hs em L2_118 f2_118 w9 (R h b0)) ∧ (m2_118 = mt + iI ↑(R h b0).length) := hw_118
                obtain ⟨v_118, m_118⟩ := hw_118
                rw [va_up_self] at v_118
                have hSP5 := v_118.P
                clear qS qw qk qM
                obtain ⟨K, ha, ea, rr, qS⟩ := id hSP5
                obtain ⟨⟨lw1, lw2, gl, lw3, lw4⟩, ⟨rk1, rk2, gg, rk3, rk4⟩, ⟨hs1, hs2, gs, hs3, hs4⟩, ⟨em1, em2, ge, em3, em4⟩, q5, q6, q7⟩ := id qS
                obtain ⟨ha1, ha2, gh, ha3, ha4⟩ := q5 h hh2
                obtain ⟨rb1, rb2, rb3⟩ := q6 h 0 hh2 (by omega)
                obtain ⟨gr, rb4, rb5⟩ := id rb3
                refine lv_aload_n hx hb dX4_rake_121 rfl (lv_at hl 5 rfl) ?_
                refine va_get (D := D) (ci := 4) (v := .ref hs) (C := RX4) (T := TX4) (N := 6) hx hb hts iX4 hown hK hP 0 rfl rfl 2 (by decide) (hts _ qw619) (fun _ h9 => h9) rfl dX4_rake_122 ?_
                refine lv_iload_n hx hb dX4_rake_125 rfl (lv_at hl 6 rfl) ?_
                refine rd_aald hx hb hK hP 3 (pl_mem hs1 hs3) rfl hhv (h) (by omega) (by omega) (by omega) (hs4 _ (by omega)) dX4_rake_126 ?_
                refine lz_iconst hx hb dX4_rake_127 (fun x_127 v_127 => ?_)
                refine rd_aald hx hb hK hP 2 (pl_mem ha1 ha3) rfl v_127 (0) (by omega) (by omega) (by omega) (ha4 _ (by omega)) dX4_rake_128 ?_
                refine lz_iconst hx hb dX4_rake_129 (fun x_129 v_129 => ?_)
                refine rd_iald hx hb hK hP 0 (pl_mem rb1 rb4) rfl v_129 (0) (by omega) (by omega) (by omega) dX4_rake_130 (fun x_130 e_130 => ?_)
                have v_130 : x_130 = iI (↑(((mvR (ka (minL Hh (R h b0)) Hh) h (va_up R h (va_up (R h) b0 [])) (R h b0)) h 0).getD 0 0)) := e_130.trans (rb5 _ (by omega))
                refine lv_istore_n (lv' := [(3, .int x_130), (6, .int ii), (5, .int x_65), (4, .ref w9), (2, .int bb), (0, .ref t0), (1, .int h0)]) hx hb dX4_rake_131 rfl hl (by decide) rfl (fun ls hl => ?_)
                refine lv_aload_n hx hb dX4_rake_132 rfl (lv_at hl 5 rfl) ?_
                refine va_get (D := D) (ci := 4) (v := .ref hs) (C := RX4) (T := TX4) (N := 6) hx hb hts iX4 hown hK hP 0 rfl rfl 2 (by decide) (hts _ qw619) (fun _ h9 => h9) rfl dX4_rake_133 ?_
                refine lv_iload_n hx hb dX4_rake_136 rfl (lv_at hl 6 rfl) ?_
                refine rd_aald hx hb hK hP 3 (pl_mem hs1 hs3) rfl hhv (h) (by omega) (by omega) (by omega) (hs4 _ (by omega)) dX4_rake_137 ?_
                refine lz_iconst hx hb dX4_rake_138 (fun x_138 v_138 => ?_)
                refine lv_aload_n hx hb dX4_rake_139 rfl (lv_at hl 5 rfl) ?_
                refine va_get (D := D) (ci := 4) (v := .ref hs) (C := RX4) (T := TX4) (N := 6) hx hb hts iX4 hown hK hP 0 rfl rfl 2 (by decide) (hts _ qw619) (fun _ h9 => h9) rfl dX4_rake_140 ?_
                refine lv_iload_n hx hb dX4_rake_143 rfl (lv_at hl 6 rfl) ?_
                refine rd_aald hx hb hK hP 3 (pl_mem hs1 hs3) rfl hhv (h) (by omega) (by omega) (by omega) (hs4 _ (by omega)) dX4_rake_144 ?_
                refine lz_iconst hx hb dX4_rake_145 (fun x_145 v_145 => ?_)
                refine rd_aald hx hb hK hP 2 (pl_mem ha1 ha3) rfl v_145 (0) (by omega) (by omega) (by omega) (ha4 _ (by omega)) dX4_rake_146 ?_
                refine lv_iload_n hx hb dX4_rake_147 rfl (lv_at hl 0 rfl) ?_
                refine cp_r (wr := [(t0, .inr (4, [.ref lw, .ref rk, .ref hs, .ref em, .int m2_118, .int qn]))]) (ws2 := fun u9 => ([(t0, .inr (4, [.ref lw, .ref rk, .ref hs, .ref em, .int m2_118, .int qn]))] ++ va_pl u9.1 u9.2)) (va_runS (As := [.ref (rr h 0), .int x_130]) (rest := [.int x_138, .ref (ha h)]) ⟨hx, hb, hml, hown, hts⟩ (k_X4_without l D cI cZ cJ cK _ (rr h 0) x_130 L2_118 f2_118 ((mvR (ka (minL Hh (R h b0)) Hh) h (va_up R h (va_up (R h) b0 [])) (R h b0)) h 0) (((mvR (ka (minL Hh (R h b0)) Hh) h (va_up R h (va_up (R h) b0 [])) (R h b0)) h 0).getD 0 0) (rb1) (rb3) (v_130.trans (congrArg iI (by omega))) (by have := hRn2 _ (getD_in hne2); omega) (fun y hy => by have := hRn2 y hy; omega) (hl2)) (va_cwS 2 hts (gS qw479 qw480 qw14 qw481) rfl rfl rfl (by decide +kernel) ⟨Nat.le_of_ble_eq_true rfl, Nat.le_of_ble_eq_true rfl⟩) (psP (wr := [(t0, .inr (4, [.ref lw, .ref rk, .ref hs, .ref em, .int m2_118, .int qn]))]) hP hD hK hT hZ hS (List.Perm.refl _)) rfl rfl hl.1 rfl (lv_room (Nat.le_of_ble_eq_true rfl)) dX4_rake_148 ⟨Nat.le_of_ble_eq_true rfl, Nat.le_of_ble_eq_true rfl⟩) hS hP hD hA (List.Perm.refl _) (fun _ => List.Perm.refl _) (fun x_148 u_148 H locs hw_148 hP hD hS => ?_)
                obtain ⟨L2_148, f2_148⟩ := u_148
                have hP : va_P D vwCl ([(t0, .inr (4, [.ref lw, .ref rk, .ref hs, .ref em, .int m2_118, .int qn]))] ++ va_pl L2_148 f2_148) H := hP
                have hD : va_D A ([(t0, .inr (4, [.ref lw, .ref rk, .ref hs, .ref em, .int m2_118, .int qn]))] ++ va_pl L2_148 f2_148) := hD
                have hw_148 : (pExt L2_118 f2_118 L2_148 f2_148) ∧ (x_148 ∈ L2_148) ∧ (x_148 ∉ L2_118) ∧ (rowE cI (((mvR (ka (minL Hh (R h b0)) Hh) h (va_up R h (va_up (R h) b0 [])) (R h b0)) h 0).filter (fun y => decide (y ≠ (((mvR (ka (minL Hh (R h b0)) Hh) h (va_up R h (va_up (R h) b0 [])) (R h b0)) h 0).getD 0 0)))) (f2_148 x_148)) := hw_148
                obtain ⟨e_148, i_148, o_148, v_148⟩ := hw_148
                have hwn : (((mvR (ka (minL Hh (R h b0)) Hh) h (va_up R h (va_up (R h) b0 [])) (R h b0)) h 0).getD 0 0) < n := hRn2 _ (getD_in hne2)
                obtain ⟨gw, hfw, hgw⟩ := id v_148
                refine pl_aast hx hb hK hP hD hS (e_148 _ ha1).1 ((e_148 _ ha1).2.trans ha3) (pl_mem i_148 hfw) (comp_J hK hT) v_138 (0) (by omega) (by omega) (by omega) dX4_rake_151 (fun f_151 H locs e_151 hP hD hS => ?_)
                have hP : va_P D vwCl ([(t0, .inr (4, [.ref lw, .ref rk, .ref hs, .ref em, .int m2_118, .int qn]))] ++ va_pl L2_148 (va_up f2_148 (ha h) (.inl (cJ, 11, .inr (.inr (.inr (.inr f_151))))))) H := hP
                have hD : va_D A ([(t0, .inr (4, [.ref lw, .ref rk, .ref hs, .ref em, .int m2_118, .int qn]))] ++ va_pl L2_148 (va_up f2_148 (ha h) (.inl (cJ, 11, .inr (.inr (.inr (.inr f_151))))))) := hD
                have hS5 := SimK.row (qS.ext e_148) i_148 (if_neg o_148) v_148 hh2 (show 0 < 11 by omega) ((e_148 _ ha1).2.trans ha3) e_151 rfl
                obtain ⟨-, -, -, ⟨em1, em2, ge, em3, em4⟩, -, -, q7⟩ := id hS5
                obtain ⟨ea1, ea2, gx, ea3, ea4, ea5, ea6⟩ := q7 _ hwn
                refine lv_aload_n hx hb dX4_rake_152 rfl (lv_at hl 5 rfl) ?_
                refine va_get (D := D) (ci := 4) (v := .ref em) (C := RX4) (T := TX4) (N := 6) hx hb hts iX4 hown hK hP 0 rfl rfl 3 (by decide) (hts _ qw620) (fun _ h9 => h9) rfl dX4_rake_153 ?_
                refine lv_iload_n hx hb dX4_rake_156 rfl (lv_at hl 0 rfl) ?_
                refine rd_aald hx hb hK hP 2 (pl_mem em1 em3) rfl v_130 ((((mvR (ka (minL Hh (R h b0)) Hh) h (va_up R h (va_up (R h) b0 [])) (R h b0)) h 0).getD 0 0)) (by omega) (by omega) (by omega) (em4 _ (by omega)) dX4_rake_157 ?_
                refine lz_iconst hx hb dX4_rake_158 (fun x_158 v_158 => ?_)
                refine lz_iconst hx hb dX4_rake_159 (fun x_159 v_159 => ?_)
                refine pl_iast hx hb hK hP hD hS 0 ea1 ea3 rfl v_158 (2) (by omega) (by omega) (by omega) dX4_rake_160 (fun f_160 H locs e_160 hP hD hS => ?_)
                have hP : va_P D vwCl ([(t0, .inr (4, [.ref lw, .ref rk, .ref hs, .ref em, .int m2_118, .int qn]))] ++ va_pl L2_148 (va_up (va_up f2_148 (ha h) (.inl (cJ, 11, .inr (.inr (.inr (.inr f_151)))))) (ea (((mvR (ka (minL Hh (R h b0)) Hh) h (va_up R h (va_up (R h) b0 [])) (R h b0)) h 0).getD 0 0)) (.inl (cI, 3, .inl f_160)))) H := hP
                have hD : va_D A ([(t0, .inr (4, [.ref lw, .ref rk, .ref hs, .ref em, .int m2_118, .int qn]))] ++ va_pl L2_148 (va_up (va_up f2_148 (ha h) (.inl (cJ, 11, .inr (.inr (.inr (.inr f_151)))))) (ea (((mvR (ka (minL Hh (R h b0)) Hh) h (va_up R h (va_up (R h) b0 [])) (R h b0)) h 0).getD 0 0)) (.inl (cI, 3, .inl f_160)))) := hD
                have hS6 := SimK.emb (g2 := f_160) (Hh2 := Hh) (mv2 := (mvA 1 mv (R h b0))) (rv2 := va_up rv (((mvR (ka (minL Hh (R h b0)) Hh) h (va_up R h (va_up (R h) b0 [])) (R h b0)) h 0).getD 0 0) 1) hS5 hwn rfl (by rw [e_160, upd_n _ _ (by omega)]; exact ea4) (by rw [e_160, upd_n _ _ (by omega)]; exact ea5) (by rw [e_160, upd_s, va_up_self]; exact v_159) (fun e he => ⟨rfl, rfl, va_up_ne _ _ he⟩)
                obtain ⟨-, ⟨rk1, rk2, gg, rk3, rk4⟩, -⟩ := id hS6
                refine lv_aload_n hx hb dX4_rake_161 rfl (lv_at hl 5 rfl) ?_
                refine va_get (D := D) (ci := 4) (v := .ref rk) (C := RX4) (T := TX4) (N := 6) hx hb hts iX4 hown hK hP 0 rfl rfl 1 (by decide) (hts _ qw618) (fun _ h9 => h9) rfl dX4_rake_162 ?_
                refine lv_iload_n hx hb dX4_rake_165 rfl (lv_at hl 6 rfl) ?_
                refine lv_dup2_11 hx hb dX4_rake_166 rfl rfl ?_
                refine rd_iald hx hb hK hP 0 (pl_mem rk1 rk3) rfl hhv (h) (by omega) (by omega) (by omega) dX4_rake_167 (fun x_167 e_167 => ?_)
                refine lz_iconst hx hb dX4_rake_168 (fun x_168 v_168 => ?_)
                refine lv_iadd hx hb dX4_rake_169 ?_
                refine lv_topi (fun x_169 e_169 => ?_)
                refine pl_iast hx hb hK hP hD hS 0 rk1 rk3 rfl hhv (h) (by omega) (by omega) (by omega) dX4_rake_170 (fun f_170 H locs e_170 hP hD hS => ?_)
                have hP : va_P D vwCl ([(t0, .inr (4, [.ref lw, .ref rk, .ref hs, .ref em, .int m2_118, .int qn]))] ++ va_pl L2_148 (va_up (va_up (va_up f2_148 (ha h) (.inl (cJ, 11, .inr (.inr (.inr (.inr f_151)))))) (ea (((mvR (ka (minL Hh (R h b0)) Hh) h (va_up R h (va_up (R h) b0 [])) (R h b0)) h 0).getD 0 0)) (.inl (cI, 3, .inl f_160))) rk (.inl (cI, 2, .inl f_170)))) H := hP
                have hD : va_D A ([(t0, .inr (4, [.ref lw, .ref rk, .ref hs, .ref em, .int m2_118, .int qn]))] ++ va_pl L2_148 (va_up (va_up (va_up f2_148 (ha h) (.inl (cJ, 11, .inr (.inr (.inr (.inr f_151)))))) (ea (((mvR (ka (minL Hh (R h b0)) Hh) h (va_up R h (va_up (R h) b0 [])) (R h b0)) h 0).getD 0 0)) (.inl (cI, 3, .inl f_160))) rk (.inl (cI, 2, .inl f_170)))) := hD
                refine lv_iload_n hx hb dX4_rake_171 rfl (lv_at hl 0 rfl) ?_
                have hP9 := hP
                have hD9 := hD
                refine W.widen (k := 82) (n := 3240) (by omega) (by omega) ?_
                exact W.iret (v := x_130) hx hb hr (fun t ht hW => ⟨⟨x_130, ⟨m2_118, L2_148, (va_up (va_up (va_up f2_148 (ha h) (.inl (cJ, 11, .inr (.inr (.inr (.inr f_151)))))) (ea (((mvR (ka (minL Hh (R h b0)) Hh) h (va_up R h (va_up (R h) b0 [])) (R h b0)) h 0).getD 0 0)) (.inl (cI, 3, .inl f_160))) rk (.inl (cI, 2, .inl f_170)))⟩, rfl, ⟨v_130, by have h9 := SimK.gks hS6 rk3 e_170 rfl; rw [e_169, e_167, rk4 h hh2, v_168] at h9; exact h9.P, m_118⟩, ⟨by rw [ht]; exact hP9, hD9⟩⟩, hS.F ht⟩) hS.2.2 dX4_rake_172
              · refine lv_aload hx hb dX4_rake_78 (lv_at hl 2 rfl) ?_
                refine lv_iload hx hb dX4_rake_80 (lv_at hl 0 rfl) ?_
                refine rd_iald hx hb hK hP 0 (pl_mem qw hfb) rfl hi (i) (by omega) (by omega) (by omega) dX4_rake_82 (fun x_82 e_82 => ?_)
                have v_82 : x_82 = iI (↑((R h b0).getD i 0)) := e_82.trans (hgb _ (by omega))
                refine lv_istore (lv' := [(7, .int x_82), (6, .int ii), (5, .int x_65), (4, .ref w9), (3, .ref w9), (2, .int bb), (0, .ref t0), (1, .int h0)]) hx hb dX4_rake_83 hl (by decide) rfl (fun ls hl => ?_)
                have hxn := hBn _ (getD_in (show i < (R h b0).length by omega))
                have hxH := hHn _ hxn
                obtain ⟨ea1, ea2, gx, ea3, ea4, ea5, ea6⟩ := q7 _ hxn
                refine lv_aload_n hx hb dX4_rake_85 rfl (lv_at hl 6 rfl) ?_
                refine va_get (D := D) (ci := 4) (v := .ref lw) (C := RX4) (T := TX4) (N := 6) hx hb hts iX4 hown hK hP 0 rfl rfl 0 (by decide) (hts _ qw616) (fun _ h9 => h9) rfl dX4_rake_86 ?_
                refine lv_iload_n hx hb dX4_rake_89 rfl (lv_at hl 7 rfl) ?_
                refine lv_aload_n hx hb dX4_rake_90 rfl (lv_at hl 6 rfl) ?_
                refine va_get (D := D) (ci := 4) (v := .ref lw) (C := RX4) (T := TX4) (N := 6) hx hb hts iX4 hown hK hP 0 rfl rfl 0 (by decide) (hts _ qw616) (fun _ h9 => h9) rfl dX4_rake_91 ?_
                refine lv_iload_n hx hb dX4_rake_94 rfl (lv_at hl 7 rfl) ?_
                refine rd_iald hx hb hK hP 0 (pl_mem lw1 lw3) rfl hhv (h) (by omega) (by omega) (by omega) dX4_rake_95 (fun x_95 e_95 => ?_)
                have v_95 : x_95 = iI (↑(min (Hh ((R h b0).getD 0 0)) (minL Hh ((R h b0).take i)))) := e_95.trans ((lw4 h hh2).trans (by rw [va_up_self]))
                refine lv_aload_n hx hb dX4_rake_96 rfl (lv_at hl 6 rfl) ?_
                refine va_get (D := D) (ci := 4) (v := .ref em) (C := RX4) (T := TX4) (N := 6) hx hb hts iX4 hown hK hP 0 rfl rfl 3 (by decide) (hts _ qw620) (fun _ h9 => h9) rfl dX4_rake_97 ?_
                refine lv_iload hx hb dX4_rake_100 (lv_at hl 0 rfl) ?_
                refine rd_aald hx hb hK hP 2 (pl_mem em1 em3) rfl v_82 (((R h b0).getD i 0)) (by omega) (by omega) (by omega) (em4 _ (by omega)) dX4_rake_102 ?_
                refine lz_iconst hx hb dX4_rake_103 (fun x_103 v_103 => ?_)
                refine rd_iald hx hb hK hP 0 (pl_mem ea1 ea3) rfl v_103 (0) (by omega) (by omega) (by omega) dX4_rake_104 (fun x_104 e_104 => ?_)
                have v_104 : x_104 = iI (↑(Hh ((R h b0).getD i 0))) := e_104.trans (ea4)
                refine lz_min hx hb (by rw [hml]; exact hl.1.symm) hown (hts _ qw463) (hts _ qw244) (hts _ qw20) (hts _ qw245) (Nat.le_of_ble_eq_true rfl) (Nat.le_of_ble_eq_true rfl) (Nat.le_of_ble_eq_true rfl) (Nat.le_of_ble_eq_true rfl) v_95 v_104 ⟨by omega, by omega⟩ dX4_rake_105 (fun x_105 v_105 => ?_)
                refine pl_iast hx hb hK hP hD hS 0 lw1 lw3 rfl hhv (h) (by omega) (by omega) (by omega) dX4_rake_108 (fun f_108 H locs e_108 hP hD hS => ?_)
                have hP : va_P D vwCl ([(t0, .inr (4, [.ref lw, .ref rk, .ref hs, .ref em, .int mt, .int qn]))] ++ va_pl Li (va_up fi lw (.inl (cI, 2, .inl f_108)))) H := hP
                have hD : va_D A ([(t0, .inr (4, [.ref lw, .ref rk, .ref hs, .ref em, .int mt, .int qn]))] ++ va_pl Li (va_up fi lw (.inl (cI, 2, .inl f_108)))) := hD
                refine lz_iinc (lv2 := fun z => [(6, .int z), (7, .int x_82), (5, .int x_65), (4, .ref w9), (3, .ref w9), (2, .int bb), (0, .ref t0), (1, .int h0)]) hx hb dX4_rake_109 hl (k := 1) rfl hi (by decide) (fun _ => rfl) (fun x_109 ls v_109 hl => ?_)
                refine lv_goto (tgt := 71) hx hb dX4_rake_112 (by decide) ?_
                exact ih71 (i + 1) x_109 Li (va_up fi lw (.inl (cI, 2, .inl f_108))) _ _ _ (by omega) (v_109.trans (congrArg iI (by omega))) (by omega) (by have h9 := SimQ_low (t := min (min (Hh ((R h b0).getD 0 0)) (minL Hh ((R h b0).take i))) (Hh ((R h b0).getD i 0))) qS qw qk qM lw3 e_108 (v_105.trans (congrArg iI (by omega))); rw [va_uu, Nat.min_assoc, ← minL_take Hh (R h b0) (show i < (R h b0).length by omega)] at h9; exact h9) hP hD hS (lv_sub hl [0, 2, 3, 4, 5, 6, 7] rfl)
          exact key71 _ 0 x_68 (L ++ [n_41]) (va_up fx lw (.inl (cI, 2, .inl f_59))) _ _ _ (Nat.lt_succ_self _) (v_68.trans (congrArg iI (by omega))) (by omega) (by rw [List.take_zero, show minL Hh [] = 1023 from rfl, Nat.min_eq_left (by omega)]; exact hSQ2) hP hD hS (lv_sub hl [0, 1, 2, 3, 4, 5, 6] rfl)
      · refine lz_iinc (lv2 := fun z => [(2, .int z), (0, .ref t0), (1, .int h0)]) hx hb dX4_rake_14 hl (k := 0) rfl hib (by decide) (fun _ => rfl) (fun x_14 ls v_14 hl => ?_)
        refine lv_goto (tgt := 2) hx hb dX4_rake_17 (by decide) ?_
        exact ih2 (b9 + 1) x_14 _ _ _ (by omega) (v_14.trans (congrArg iI (by omega))) (by rcases Nat.lt_or_ge b9 b0 with q | q; exact q; rw [show b9 = b0 by omega] at c_11; omega) hP hD hS (lv_sub hl [0, 1, 2] rfl)
  exact key2 _ 0 x_0 _ _ _ (Nat.lt_succ_self _) (v_0.trans (congrArg iI (by omega))) (Nat.zero_le _) hP hD hS (lv_sub hl [0, 1, 2] rfl)
