set_option maxHeartbeats 4000000 in
set_option maxRecDepth 100000 in
theorem k_X4_put (l : Launch) (D : va_G) (cI cZ cJ cK : ClassId) (hz9 : Nat) (t0 : Nat) (h0 : Int32) (x0 : Int32) (lw : Nat) (rk : Nat) (hs : Nat) (em : Nat) (mt : Int32) (qn : Int32) (L : List Nat) (f : Nat → va_E) (h eb : Nat) (n : Nat) (Hh : Nat → Nat) (mv : Nat → Int32) (rv : Nat → Int) (lo : Nat → Nat) (gk : Nat → Int32) (R : Nat → Nat → List Nat) (wk : Nat) (M : List Nat) (hSQ : SimQ cI cJ cK n Hh mv rv lo gk R lw rk hs em L f wk M) (hhv : h0 = iI ↑h) (hh2 : h < 2) (hxv : x0 = iI ↑eb) (hen : eb < n) (hn4 : n ≤ 40) (hHe : Hh eb < 1024) (hlo4 : lo h < 1024) (hlen : ∀ b, b < 11 → (R h b).length ≤ 39) : Met l yX4_put (ws_ yX4_put cX4_put 4 (Option.none : Option Jvm.ClassFile.FieldType)) ({ frames := 1, cells := 1, slots := 40, locals := 23 }) (va_Pc [.ref t0, .int h0, .int x0] (wPre D cI cZ cJ cK hz9 ([(t0, .inr (4, [.ref lw, .ref rk, .ref hs, .ref em, .int mt, .int qn]))] ++ va_pl L f))) (va_Qv (fun (u : List Nat × (Nat → va_E)) => (SimQ cI cJ cK n Hh mv rv lo gk (putR (ka (lo h) Hh) h R eb) lw rk hs em u.1 u.2 wk M)) (fun (u : List Nat × (Nat → va_E)) t => wPost D (va_A ([(t0, .inr (4, [.ref lw, .ref rk, .ref hs, .ref em, .int mt, .int qn]))] ++ va_pl L f) hz9) ([(t0, .inr (4, [.ref lw, .ref rk, .ref hs, .ref em, .int mt, .int qn]))] ++ va_pl u.1 u.2) t) (va_A ([(t0, .inr (4, [.ref lw, .ref rk, .ref hs, .ref em, .int mt, .int qn]))] ++ va_pl L f) hz9)) 1 40 (va_A ([(t0, .inr (4, [.ref lw, .ref rk, .ref hs, .ref em, .int mt, .int qn]))] ++ va_pl L f) hz9) := by
  refine Met.ofW (cc := cX4_put) (maxL := 4) (ret := (Option.none : Option Jvm.ClassFile.FieldType)) (by decide) rfl ?_
  intro p e s m args below meth c s₁ hBd hml hv
  obtain ⟨rfl, hsz, hP, hD, hK, hT, hZ⟩ := hv
  have hx := hBd.exec
  have hb := hBd.bytes
  have hr := hBd.returns
  have hts : ∀ w ∈ lw_G, w.before _ s = true := fun w h => atoms_spec (ws := (ws_ yX4_put cX4_put 4 (Option.none : Option Jvm.ClassFile.FieldType))) hBd.pre w (List.mem_cons_of_mem _ h)
  have hown : s.vm.findClass RX4 = some m.cls := findClass_of_methodNamed hBd.named
  have hlocks := hBd.notSynchronized
  subst hsz
  have hD := hD.self (sz := s.heap.size)
  have hZA := hZ.own hP
  generalize hAe : va_A ([(t0, .inr (4, [.ref lw, .ref rk, .ref hs, .ref em, .int mt, .int qn]))] ++ va_pl L f) s.heap.size = A at hD hZA ⊢
  have hA : ∀ q : Nat, s.heap.size ≤ q → A q := fun q h => by rw [← hAe]; exact Or.inr h
  have hZ := hZA
  have hS : va_S A s.heap s.heap [] := va_S.rf
  have hl := lv_entry ([.ref t0, .int h0, .int x0]) (n := 4) (Nat.le_of_ble_eq_true rfl)
  rw [lg_entry_eq]
  generalize (lg_sl ([.ref t0, .int h0, .int x0]) ++ List.replicate (4 - (lg_sl ([.ref t0, .int h0, .int x0])).length) Slot.unset).toArray = ls at hl ⊢
  have hl : lv_has ls 4 [(0, .ref t0), (1, .int h0), (2, .int x0)] := hl
  have hP : va_P D vwCl ([(t0, .inr (4, [.ref lw, .ref rk, .ref hs, .ref em, .int mt, .int qn]))] ++ va_pl L f) s.heap := hP
  obtain ⟨K, ha, ea, rr, qS, qw, qk, qM⟩ := id hSQ
  obtain ⟨⟨lw1, lw2, gl, lw3, lw4⟩, ⟨rk1, rk2, gg, rk3, rk4⟩, ⟨hs1, hs2, gs, hs3, hs4⟩, ⟨em1, em2, ge, em3, em4⟩, q5, q6, q7⟩ := id qS
  obtain ⟨ha1, ha2, gh, ha3, ha4⟩ := q5 h hh2
  obtain ⟨ea1, ea2, gx, ea3, ea4, ea5, ea6⟩ := q7 eb hen
  have hb10 : bk (lo h) (Hh eb) ≤ 10 := bk_le10 hlo4 hHe
  obtain ⟨rb1, rb2, rb3⟩ := q6 h (bk (lo h) (Hh eb)) hh2 (by omega)
  refine lv_aload_n hx hb dX4_put_0 rfl (lv_at hl 0 rfl) ?_
  refine lv_iload_n hx hb dX4_put_1 rfl (lv_at hl 1 rfl) ?_
  refine lv_aload_n hx hb dX4_put_2 rfl (lv_at hl 0 rfl) ?_
  refine va_get (D := D) (ci := 4) (v := .ref em) (C := RX4) (T := TX4) (N := 6) hx hb hts iX4 hown hK hP 0 rfl rfl 3 (by decide) (hts _ qw620) (fun _ h9 => h9) rfl dX4_put_3 ?_
  refine lv_iload_n hx hb dX4_put_6 rfl (lv_at hl 2 rfl) ?_
  refine rd_aald hx hb hK hP 2 (pl_mem em1 em3) rfl hxv (eb) (by omega) (by omega) (by omega) (em4 _ (by omega)) dX4_put_7 ?_
  refine lz_iconst hx hb dX4_put_8 (fun x_8 v_8 => ?_)
  refine rd_iald hx hb hK hP 0 (pl_mem ea1 ea3) rfl v_8 (0) (by omega) (by omega) (by omega) dX4_put_9 (fun x_9 e_9 => ?_)
  have v_9 : x_9 = iI (↑(Hh eb)) := e_9.trans (ea4)
  refine cr_i (va_runV (As := [.int h0, .int x_9]) (rest := []) ⟨hx, hb, hml, hown, hts⟩ (k_X4_bucket l D cI cZ cJ cK _ t0 h0 x_9 lw rk hs em mt qn L f h (Hh eb) (lo h) (lw1) (⟨gl, lw3, lw4 h hh2⟩) (hhv.trans (congrArg iI (by omega))) (hh2) (v_9.trans (congrArg iI (by omega))) (hHe) (hlo4)) (cwV 2 hts (gV qw472 qw473 qw474 qw14 qw475) rfl rfl rfl (by decide +kernel) ⟨Nat.le_of_ble_eq_true rfl, Nat.le_of_ble_eq_true rfl⟩) (pvP (ci := 4) (r := (RX4, TX4, 6)) (q0 := 0) (wr := []) hP hD hK hT hZ hS (List.Perm.refl _) rfl rfl) rfl rfl hl.1 rfl (lv_room (Nat.le_of_ble_eq_true rfl)) dX4_put_10 ⟨Nat.le_of_ble_eq_true rfl, Nat.le_of_ble_eq_true rfl⟩) hS hP (fun x_10 H locs hw_10 hP hS => ?_)
  have hw_10 : (x_10 = iI (↑(bk (lo h) (Hh eb)))) := hw_10
  have v_10 := hw_10
  refine lv_istore_n (lv' := [(3, .int x_10), (0, .ref t0), (1, .int h0), (2, .int x0)]) hx hb dX4_put_13 rfl hl (by decide) rfl (fun ls hl => ?_)
  refine lv_aload_n hx hb dX4_put_14 rfl (lv_at hl 1 rfl) ?_
  refine va_get (D := D) (ci := 4) (v := .ref hs) (C := RX4) (T := TX4) (N := 6) hx hb hts iX4 hown hK hP 0 rfl rfl 2 (by decide) (hts _ qw619) (fun _ h9 => h9) rfl dX4_put_15 ?_
  refine lv_iload_n hx hb dX4_put_18 rfl (lv_at hl 2 rfl) ?_
  refine rd_aald hx hb hK hP 3 (pl_mem hs1 hs3) rfl hhv (h) (by omega) (by omega) (by omega) (hs4 _ (by omega)) dX4_put_19 ?_
  refine lv_iload_n hx hb dX4_put_20 rfl (lv_at hl 0 rfl) ?_
  refine lv_aload_n hx hb dX4_put_21 rfl (lv_at hl 1 rfl) ?_
  refine va_get (D := D) (ci := 4) (v := .ref hs) (C := RX4) (T := TX4) (N := 6) hx hb hts iX4 hown hK hP 0 rfl rfl 2 (by decide) (hts _ qw619) (fun _ h9 => h9) rfl dX4_put_22 ?_
  refine lv_iload_n hx hb dX4_put_25 rfl (lv_at hl 2 rfl) ?_
  refine rd_aald hx hb hK hP 3 (pl_mem hs1 hs3) rfl hhv (h) (by omega) (by omega) (by omega) (hs4 _ (by omega)) dX4_put_26 ?_
  refine lv_iload_n hx hb dX4_put_27 rfl (lv_at hl 0 rfl) ?_
  refine rd_aald hx hb hK hP 2 (pl_mem ha1 ha3) rfl v_10 ((bk (lo h) (Hh eb))) (by omega) (by omega) (by omega) (ha4 _ (by omega)) dX4_put_28 ?_
  refine lv_iload_n hx hb dX4_put_29 rfl (lv_at hl 3 rfl) ?_
  refine cp_r (wr := [(t0, .inr (4, [.ref lw, .ref rk, .ref hs, .ref em, .int mt, .int qn]))]) (ws2 := fun u9 => ([(t0, .inr (4, [.ref lw, .ref rk, .ref hs, .ref em, .int mt, .int qn]))] ++ va_pl u9.1 u9.2)) (va_runS (As := [.ref (rr h (bk (lo h) (Hh eb))), .int x0]) (rest := [.int x_10, .ref (ha h)]) ⟨hx, hb, hml, hown, hts⟩ (k_X4_with l D cI cZ cJ cK _ (rr h (bk (lo h) (Hh eb))) x0 L f (R h (bk (lo h) (Hh eb))) eb (rb1) (rb3) (hxv.trans (congrArg iI (by omega))) (hlen _ (by omega))) (va_cwS 2 hts (gS qw476 qw477 qw14 qw478) rfl rfl rfl (by decide +kernel) ⟨Nat.le_of_ble_eq_true rfl, Nat.le_of_ble_eq_true rfl⟩) (psP (wr := [(t0, .inr (4, [.ref lw, .ref rk, .ref hs, .ref em, .int mt, .int qn]))]) hP hD hK hT hZ hS (List.Perm.refl _)) rfl rfl hl.1 rfl (lv_room (Nat.le_of_ble_eq_true rfl)) dX4_put_30 ⟨Nat.le_of_ble_eq_true rfl, Nat.le_of_ble_eq_true rfl⟩) hS hP hD hA (List.Perm.refl _) (fun _ => List.Perm.refl _) (fun x_30 u_30 H locs hw_30 hP hD hS => ?_)
  obtain ⟨L2_30, f2_30⟩ := u_30
  have hP : va_P D vwCl ([(t0, .inr (4, [.ref lw, .ref rk, .ref hs, .ref em, .int mt, .int qn]))] ++ va_pl L2_30 f2_30) H := hP
  have hD : va_D A ([(t0, .inr (4, [.ref lw, .ref rk, .ref hs, .ref em, .int mt, .int qn]))] ++ va_pl L2_30 f2_30) := hD
  have hw_30 : (pExt L f L2_30 f2_30) ∧ (x_30 ∈ L2_30) ∧ (x_30 ∉ L) ∧ (rowE cI ((R h (bk (lo h) (Hh eb))) ++ [eb]) (f2_30 x_30)) := hw_30
  obtain ⟨e_30, i_30, o_30, v_30⟩ := hw_30
  obtain ⟨gv, hfv, hgv⟩ := id v_30
  refine pl_aast hx hb hK hP hD hS (e_30 _ ha1).1 ((e_30 _ ha1).2.trans ha3) (pl_mem i_30 hfv) (comp_J hK hT) v_10 ((bk (lo h) (Hh eb))) (by omega) (by omega) (by omega) dX4_put_33 (fun f_33 H locs e_33 hP hD hS => ?_)
  have hP : va_P D vwCl ([(t0, .inr (4, [.ref lw, .ref rk, .ref hs, .ref em, .int mt, .int qn]))] ++ va_pl L2_30 (va_up f2_30 (ha h) (.inl (cJ, 11, .inr (.inr (.inr (.inr f_33))))))) H := hP
  have hD : va_D A ([(t0, .inr (4, [.ref lw, .ref rk, .ref hs, .ref em, .int mt, .int qn]))] ++ va_pl L2_30 (va_up f2_30 (ha h) (.inl (cJ, 11, .inr (.inr (.inr (.inr f_33))))))) := hD
  have hP9 := hP
  have hD9 := hD
  refine W.widen (k := 1) (n := 40) (by omega) (by omega) ?_
  exact W.vret hx hb hr (fun t ht hW => ⟨⟨⟨L2_30, (va_up f2_30 (ha h) (.inl (cJ, 11, .inr (.inr (.inr (.inr f_33))))))⟩, rfl, SimQ_put qS qw qk qM e_30 i_30 o_30 v_30 hh2 (show bk (lo h) (Hh eb) < 11 by omega) ha3 e_33 rfl, ⟨by rw [ht]; exact hP9, hD9⟩⟩, hS.F ht⟩) hS.2.2 dX4_put_34
set_option maxHeartbeats 4000000 in
set_option maxRecDepth 100000 in
theorem k_X4_move (l : Launch) (D : va_G) (cI cZ cJ cK : ClassId) (hz9 : Nat) (t0 : Nat) (h0 : Int32) (w0 : Nat) (lw : Nat) (rk : Nat) (hs : Nat) (em : Nat) (mt : Int32) (qn : Int32) (L : List Nat) (f : Nat → va_E) (h : Nat) (n : Nat) (Hh : Nat → Nat) (mv : Nat → Int32) (rv : Nat → Int) (lo : Nat → Nat) (gk : Nat → Int32) (R : Nat → Nat → List Nat) (B : List Nat) (hSQ : SimQ cI cJ cK n Hh mv rv lo gk R lw rk hs em L f w0 B) (hhv : h0 = iI ↑h) (hh2 : h < 2) (hn4 : n ≤ 40) (hlo4 : lo h < 1024) (hBn : ∀ x ∈ B, x < n) (hBH : ∀ x ∈ B, Hh x < 1024) (hlen : ∀ b, b < 11 → (R h b).length + B.length ≤ 40) (hBl : B.length ≤ 40) : Met l yX4_move (ws_ yX4_move cX4_move 7 (Option.none : Option Jvm.ClassFile.FieldType)) ({ frames := 2, cells := 40, slots := 1600, locals := 46 }) (va_Pc [.ref t0, .int h0, .ref w0] (wPre D cI cZ cJ cK hz9 ([(t0, .inr (4, [.ref lw, .ref rk, .ref hs, .ref em, .int mt, .int qn]))] ++ va_pl L f))) (va_Qv (fun (u : Int32 × List Nat × (Nat → va_E)) => (SimQ cI cJ cK n Hh (mvA 1 mv B) rv lo gk (mvR (ka (lo h) Hh) h R B) lw rk hs em u.2.1 u.2.2 w0 B) ∧ (u.1 = mt + iI ↑B.length)) (fun (u : Int32 × List Nat × (Nat → va_E)) t => wPost D (va_A ([(t0, .inr (4, [.ref lw, .ref rk, .ref hs, .ref em, .int mt, .int qn]))] ++ va_pl L f) hz9) ([(t0, .inr (4, [.ref lw, .ref rk, .ref hs, .ref em, .int u.1, .int qn]))] ++ va_pl u.2.1 u.2.2) t) (va_A ([(t0, .inr (4, [.ref lw, .ref rk, .ref hs, .ref em, .int mt, .int qn]))] ++ va_pl L f) hz9)) 40 1600 (va_A ([(t0, .inr (4, [.ref lw, .ref rk, .ref hs, .ref em, .int mt, .int qn]))] ++ va_pl L f) hz9) := by
  refine Met.ofW (cc := cX4_move) (maxL := 7) (ret := (Option.none : Option Jvm.ClassFile.FieldType)) (by decide) rfl ?_
  intro p e s m args below meth c s₁ hBd hml hv
  obtain ⟨rfl, hsz, hP, hD, hK, hT, hZ⟩ := hv
  have hx := hBd.exec
  have hb := hBd.bytes
  have hr := hBd.returns
  have hts : ∀ w ∈ lw_G, w.before _ s = true := fun w h => atoms_spec (ws := (ws_ yX4_move cX4_move 7 (Option.none : Option Jvm.ClassFile.FieldType))) hBd.pre w (List.mem_cons_of_mem _ h)
  have hown : s.vm.findClass RX4 = some m.cls := findClass_of_methodNamed hBd.named
  have hlocks := hBd.notSynchronized
  subst hsz
  have hD := hD.self (sz := s.heap.size)
  have hZA := hZ.own hP
  generalize hAe : va_A ([(t0, .inr (4, [.ref lw, .ref rk, .ref hs, .ref em, .int mt, .int qn]))] ++ va_pl L f) s.heap.size = A at hD hZA ⊢
  have hA : ∀ q : Nat, s.heap.size ≤ q → A q := fun q h => by rw [← hAe]; exact Or.inr h
  have hZ := hZA
  have hS : va_S A s.heap s.heap [] := va_S.rf
  have hl := lv_entry ([.ref t0, .int h0, .ref w0]) (n := 7) (Nat.le_of_ble_eq_true rfl)
  rw [lg_entry_eq]
  generalize (lg_sl ([.ref t0, .int h0, .ref w0]) ++ List.replicate (7 - (lg_sl ([.ref t0, .int h0, .ref w0])).length) Slot.unset).toArray = ls at hl ⊢
  have hl : lv_has ls 7 [(0, .ref t0), (1, .int h0), (2, .ref w0)] := hl
  have hP : va_P D vwCl ([(t0, .inr (4, [.ref lw, .ref rk, .ref hs, .ref em, .int mt, .int qn]))] ++ va_pl L f) s.heap := hP
  obtain ⟨K0, ha0, ea0, rr0, qS0, qw0, qk0, qM0⟩ := id hSQ
  obtain ⟨gb0, hfb0, hgb0⟩ := id qM0
  refine lv_aload_n hx hb dX4_move_0 rfl (lv_at hl 2 rfl) ?_
  refine lv_astore_n (lv' := [(3, .ref w0), (0, .ref t0), (1, .int h0), (2, .ref w0)]) hx hb dX4_move_1 rfl hl (by decide) rfl (fun ls hl => ?_)
  refine lv_aload_n hx hb dX4_move_2 rfl (lv_at hl 0 rfl) ?_
  refine rd_alen hx hb hK hP 0 (pl_mem qw0 hfb0) rfl dX4_move_3 (fun x_3 v_3 => ?_)
  have v_3 : x_3 = iI (↑(B.length)) := v_3
  refine lv_istore (lv' := [(4, .int x_3), (3, .ref w0), (0, .ref t0), (1, .int h0), (2, .ref w0)]) hx hb dX4_move_4 hl (by decide) rfl (fun ls hl => ?_)
  refine lz_iconst hx hb dX4_move_6 (fun x_6 v_6 => ?_)
  refine lv_istore (lv' := [(5, .int x_6), (4, .int x_3), (3, .ref w0), (0, .ref t0), (1, .int h0), (2, .ref w0)]) hx hb dX4_move_7 hl (by decide) rfl (fun ls hl => ?_)
  have key9 : ∀ (fu : Nat) (i : Nat) (ii : Int32) (Li : List Nat) (fi : Nat → va_E) (mm : Int32) (H : Heap) (locs : List Loc) (ls : Array Slot), B.length + 1 - i < fu → (ii = iI (↑i)) → (i ≤ B.length) → (SimQ cI cJ cK n Hh (mvA 1 mv (B.take i)) rv lo gk (mvR (ka (lo h) Hh) h R (B.take i)) lw rk hs em Li fi w0 B) → (mm = mt + iI ↑i) → va_P D vwCl ([(t0, .inr (4, [.ref lw, .ref rk, .ref hs, .ref em, .int mm, .int qn]))] ++ va_pl Li fi) H → va_D A ([(t0, .inr (4, [.ref lw, .ref rk, .ref hs, .ref em, .int mm, .int qn]))] ++ va_pl Li fi) → va_S A s.heap H locs → lv_has ls 7 [(5, .int ii), (4, .int x_3), (3, .ref w0), (0, .ref t0), (1, .int h0), (2, .ref w0)] → W p l e (headSpec (ws_ yX4_move cX4_move 7 (Option.none : Option Jvm.ClassFile.FieldType)) ({ frames := 2, cells := 40, slots := 1600, locals := 46 })).room s m ([.ref t0, .int h0, .ref w0] : List Value).toArray below meth c H locs (0 + i) (40 * i) (MQ below (va_Qv (fun (u : Int32 × List Nat × (Nat → va_E)) => (SimQ cI cJ cK n Hh (mvA 1 mv B) rv lo gk (mvR (ka (lo h) Hh) h R B) lw rk hs em u.2.1 u.2.2 w0 B) ∧ (u.1 = mt + iI ↑B.length)) (fun (u : Int32 × List Nat × (Nat → va_E)) t => wPost D A ([(t0, .inr (4, [.ref lw, .ref rk, .ref hs, .ref em, .int u.1, .int qn]))] ++ va_pl u.2.1 u.2.2) t) A) ([.ref t0, .int h0, .ref w0] : List Value).toArray s 40 1600 A) (F0 m 9 ls []) := by
    intro fu
    induction fu with
    | zero => intros; omega
    | succ fu ih9 =>
      intro i ii Li fi mm H locs ls hfu hi hle hSQ2 hmm hP hD hS hl
      obtain ⟨K, ha, ea, rr, qS, qw, qk, qM⟩ := id hSQ2
      obtain ⟨gb, hfb, hgb⟩ := id qM
      refine lv_iload hx hb dX4_move_9 (lv_at hl 0 rfl) ?_
      refine lv_iload hx hb dX4_move_11 (lv_at hl 1 rfl) ?_
      refine lz_icmp_ge (tgt := 58) hx hb hi v_3 ⟨by omega, by omega⟩ dX4_move_13 (by decide) (fun c_13 => ?_) (fun c_13 => ?_)
      · have hP9 := hP
        have hD9 := hD
        refine W.widen (k := 40) (n := 1600) (by omega) (by omega) ?_
        exact W.vret hx hb hr (fun t ht hW => ⟨⟨⟨mm, Li, fi⟩, rfl, ⟨by rw [take_all (show B.length ≤ i by omega)] at hSQ2; exact hSQ2, hmm.trans (by rw [show i = B.length by omega])⟩, ⟨by rw [ht]; exact hP9, hD9⟩⟩, hS.F ht⟩) hS.2.2 dX4_move_58
      · refine lv_aload_n hx hb dX4_move_16 rfl (lv_at hl 2 rfl) ?_
        refine lv_iload hx hb dX4_move_17 (lv_at hl 0 rfl) ?_
        refine rd_iald hx hb hK hP 0 (pl_mem qw hfb) rfl hi (i) (by omega) (by omega) (by omega) dX4_move_19 (fun x_19 e_19 => ?_)
        have v_19 : x_19 = iI (↑(B.getD i 0)) := e_19.trans (hgb _ (by omega))
        refine lv_istore (lv' := [(6, .int x_19), (5, .int ii), (4, .int x_3), (3, .ref w0), (0, .ref t0), (1, .int h0), (2, .ref w0)]) hx hb dX4_move_20 hl (by decide) rfl (fun ls hl => ?_)
        have hxn := hBn _ (getD_in (show i < B.length by omega))
        have hxH := hBH _ (getD_in (show i < B.length by omega))
        refine lv_aload_n hx hb dX4_move_22 rfl (lv_at hl 4 rfl) ?_
        refine lv_iload_n hx hb dX4_move_23 rfl (lv_at hl 5 rfl) ?_
        refine lv_iload hx hb dX4_move_24 (lv_at hl 0 rfl) ?_
        refine cp_v (wr := []) (ws2 := fun u9 => ([(t0, .inr (4, [.ref lw, .ref rk, .ref hs, .ref em, .int mm, .int qn]))] ++ va_pl u9.1 u9.2)) (va_runV (As := [.int h0, .int x_19]) (rest := []) ⟨hx, hb, hml, hown, hts⟩ (k_X4_put l D cI cZ cJ cK _ t0 h0 x_19 lw rk hs em mm qn Li fi h (B.getD i 0) n Hh (mvA 1 mv (B.take i)) rv lo gk (mvR (ka (lo h) Hh) h R (B.take i)) w0 B (hSQ2) (hhv.trans (congrArg iI (by omega))) (hh2) (v_19.trans (congrArg iI (by omega))) (hxn) (hn4) (hxH) (hlo4) (fun b hb9 => by have h1 := mvR_len (ka (lo h) Hh) h R B i (by omega) b; have h2 := hlen b hb9; omega)) (cwV 2 hts (gV qw468 qw469 qw470 qw14 qw471) rfl rfl rfl (by decide +kernel) ⟨Nat.le_of_ble_eq_true rfl, Nat.le_of_ble_eq_true rfl⟩) (pvP (ci := 4) (r := (RX4, TX4, 6)) (q0 := 0) (wr := []) hP hD hK hT hZ hS (List.Perm.refl _) rfl rfl) rfl rfl hl.1 rfl (lv_room (Nat.le_of_ble_eq_true rfl)) dX4_move_26 ⟨(by show ((0 + i) + 1) ≤ 40; omega), (by show ((40 * i) + 40) ≤ 1600; omega)⟩) hS hP hD hA (List.Perm.refl _) (fun _ => List.Perm.refl _) (fun u_26 H locs hw_26 hP hD hS => ?_)
        obtain ⟨L2_26, f2_26⟩ := u_26
        have hP : va_P D vwCl ([(t0, .inr (4, [.ref lw, .ref rk, .ref hs, .ref em, .int mm, .int qn]))] ++ va_pl L2_26 f2_26) H := hP
        have hD : va_D A ([(t0, .inr (4, [.ref lw, .ref rk, .ref hs, .ref em, .int mm, .int qn]))] ++ va_pl L2_26 f2_26) := hD
        have hw_26 : (SimQ cI cJ cK n Hh (mvA 1 mv (B.take i)) rv lo gk (putR (ka (lo h) Hh) h (mvR (ka (lo h) Hh) h R (B.take i)) (B.getD i 0)) lw rk hs em L2_26 f2_26 w0 B) := hw_26
        have v_26 := hw_26
        clear qS qw qk qM hfb hgb
        obtain ⟨K, ha, ea, rr, qS, qw, qk, qM⟩ := id v_26
        obtain ⟨⟨lw1, lw2, gl, lw3, lw4⟩, ⟨rk1, rk2, gg, rk3, rk4⟩, ⟨hs1, hs2, gs, hs3, hs4⟩, ⟨em1, em2, ge, em3, em4⟩, q5, q6, q7⟩ := id qS
        obtain ⟨ea1, ea2, gx, ea3, ea4, ea5, ea6⟩ := q7 (B.getD i 0) hxn
        refine lv_aload_n hx hb dX4_move_29 rfl (lv_at hl 4 rfl) ?_
        refine va_get (D := D) (ci := 4) (v := .ref em) (C := RX4) (T := TX4) (N := 6) hx hb hts iX4 hown hK hP 0 rfl rfl 3 (by decide) (hts _ qw620) (fun _ h9 => h9) rfl dX4_move_30 ?_
        refine lv_iload hx hb dX4_move_33 (lv_at hl 0 rfl) ?_
        refine rd_aald hx hb hK hP 2 (pl_mem em1 em3) rfl v_19 ((B.getD i 0)) (by omega) (by omega) (by omega) (em4 _ (by omega)) dX4_move_35 ?_
        refine lz_iconst hx hb dX4_move_36 (fun x_36 v_36 => ?_)
        refine lv_dup2_11 hx hb dX4_move_37 rfl rfl ?_
        refine rd_iald hx hb hK hP 0 (pl_mem ea1 ea3) rfl v_36 (1) (by omega) (by omega) (by omega) dX4_move_38 (fun x_38 e_38 => ?_)
        refine lz_iconst hx hb dX4_move_39 (fun x_39 v_39 => ?_)
        refine lv_iadd hx hb dX4_move_40 ?_
        refine lv_topi (fun x_40 e_40 => ?_)
        refine pl_iast hx hb hK hP hD hS 0 ea1 ea3 rfl v_36 (1) (by omega) (by omega) (by omega) dX4_move_41 (fun f_41 H locs e_41 hP hD hS => ?_)
        have hP : va_P D vwCl ([(t0, .inr (4, [.ref lw, .ref rk, .ref hs, .ref em, .int mm, .int qn]))] ++ va_pl L2_26 (va_up f2_26 (ea (B.getD i 0)) (.inl (cI, 3, .inl f_41)))) H := hP
        have hD : va_D A ([(t0, .inr (4, [.ref lw, .ref rk, .ref hs, .ref em, .int mm, .int qn]))] ++ va_pl L2_26 (va_up f2_26 (ea (B.getD i 0)) (.inl (cI, 3, .inl f_41)))) := hD
        refine lv_aload_n hx hb dX4_move_42 rfl (lv_at hl 4 rfl) ?_
        refine lv_dup hx hb dX4_move_43 rfl ?_
        refine va_get (D := D) (ci := 4) (v := .int mm) (C := RX4) (T := TX4) (N := 6) hx hb hts iX4 hown hK hP 0 rfl rfl 4 (by decide) (hts _ qw622) (fun _ h9 => h9) rfl dX4_move_44 ?_
        refine lz_iconst hx hb dX4_move_47 (fun x_47 v_47 => ?_)
        refine lv_iadd hx hb dX4_move_48 ?_
        refine lv_topi (fun x_48 e_48 => ?_)
        refine va_put (D := D) (ci := 4) (v := .int x_48) (ty := .int) (C := RX4) (T := TX4) (N := 6) hx hb hts iX4 tyX4 tyX4_ok nmX4 hown hK hP hD hS 0 rfl rfl 4 (by decide) (hts _ qw622) (fun _ h9 => h9) rfl (by decide +kernel) rfl rfl (Nat.le_of_ble_eq_true rfl) dX4_move_49 (fun H locs hP hD hS => ?_)
        have hP : va_P D vwCl ([(t0, .inr (4, [.ref lw, .ref rk, .ref hs, .ref em, .int x_48, .int qn]))] ++ va_pl L2_26 (va_up f2_26 (ea (B.getD i 0)) (.inl (cI, 3, .inl f_41)))) H := hP
        have hD : va_D A ([(t0, .inr (4, [.ref lw, .ref rk, .ref hs, .ref em, .int x_48, .int qn]))] ++ va_pl L2_26 (va_up f2_26 (ea (B.getD i 0)) (.inl (cI, 3, .inl f_41)))) := hD
        refine lz_iinc (lv2 := fun z => [(5, .int z), (6, .int x_19), (4, .int x_3), (3, .ref w0), (0, .ref t0), (1, .int h0), (2, .ref w0)]) hx hb dX4_move_52 hl (k := 1) rfl hi (by decide) (fun _ => rfl) (fun x_52 ls v_52 hl => ?_)
        refine lv_goto (tgt := 9) hx hb dX4_move_55 (by decide) ?_
        refine W.widen (k := (0 + (i + 1))) (n := (40 * (i + 1))) (by omega) (by omega) ?_
        exact ih9 (i + 1) x_52 L2_26 (va_up f2_26 (ea (B.getD i 0)) (.inl (cI, 3, .inl f_41))) x_48 _ _ _ (by omega) (v_52.trans (congrArg iI (by omega))) (by omega) (by rw [mvR_take _ _ _ (show i < B.length by omega), ← mvA_step (B := B) (i := i) rfl (by decide) (by omega) rfl]; exact SimQ_bump qS qw qk qM hxn ea3 e_41 (by rw [e_40, e_38, v_39]; rfl)) (by rw [e_48, hmm, v_47]; exact iI_a1 mt i) hP hD hS (lv_sub hl [0, 2, 3, 4, 5, 6] rfl)
  refine W.widen (k := (0 + 0)) (n := (40 * 0)) (by omega) (by omega) ?_
  exact key9 _ 0 x_6 L f mt _ _ _ (Nat.lt_succ_self _) (v_6.trans (congrArg iI (by omega))) (by omega) (hSQ) ((iI_z mt).symm) hP hD hS (lv_sub hl [0, 1, 2, 3, 4, 5] rfl)
