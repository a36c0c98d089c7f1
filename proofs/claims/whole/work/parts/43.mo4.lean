set_option maxHeartbeats 4000000 in
set_option maxRecDepth 100000 in
theorem k_X5_digest (l : Launch) (D : va_G) (cI cZ cJ : ClassId) (hz9 : Nat) (m0 : Nat) (th : Int32) (el : Int32) (s0 : Nat) (z0 : Nat) (sh : Nat) (sa : Nat) (sc : Nat) (sv : Nat) (sr : Nat) (sl : Nat) (sk : Nat) (cg : Int32) (mt : Int32) (qn : Int32) (sw : Nat) (gl : Nat → Int32) (fh : Nat → Int32) (fa : Nat → Int32) (fc : Nat → Int32) (fv : Nat → Int32) (rw : Nat → Int32) (fr : Nat → Int32) (gk : Nat → Int32) (n : Nat) (Hh : Nat → Nat) (av : Nat → Int) (lo : Nat → Nat) (Ls : Nat → List Nat) (rk : Nat → Int) (G : Nat) (hms : MS el fh fa fc gl cg n Hh av lo Ls G) (hrk : rkIs fr n av rk) (hG : G ≤ 268435456) : Met l yX5_digest (ws_ yX5_digest cX5_digest 7 (Option.some .long)) ({ frames := 5, cells := 5, slots := 25, locals := 110 }) (va_Pc [.ref m0] (wPre D cI cZ cJ hz9 [(m0, .inr (5, [.int th, .int el, .ref s0, .ref z0])), (s0, .inr (4, [.ref sh, .ref sa, .ref sc, .ref sv, .ref sr, .ref sl, .ref sk, .int cg, .int mt, .int qn, .ref sw, .ref m0])), (sl, .inl (cI, 2, .inl gl)), (sh, .inl (cI, 40, .inl fh)), (sa, .inl (cI, 40, .inl fa)), (sc, .inl (cI, 40, .inl fc)), (sv, .inl (cI, 40, .inl fv)), (sw, .inl (cI, 40, .inl rw)), (sr, .inl (cI, 40, .inl fr)), (sk, .inl (cI, 2, .inl gk))])) (va_Ql (fun r (u : Int32 × (Nat → Int32)) => (u.1 = iI (0)) ∧ (r = diF n (lo 0) (lo 1) Hh (Ls 0) (Ls 1) av rk fv mt (gk 0) (gk 1) (gk 0 + gk 1) qn)) (fun (u : Int32 × (Nat → Int32)) t => wPost D (va_A [(m0, .inr (5, [.int th, .int el, .ref s0, .ref z0])), (s0, .inr (4, [.ref sh, .ref sa, .ref sc, .ref sv, .ref sr, .ref sl, .ref sk, .int cg, .int mt, .int qn, .ref sw, .ref m0])), (sl, .inl (cI, 2, .inl gl)), (sh, .inl (cI, 40, .inl fh)), (sa, .inl (cI, 40, .inl fa)), (sc, .inl (cI, 40, .inl fc)), (sv, .inl (cI, 40, .inl fv)), (sw, .inl (cI, 40, .inl rw)), (sr, .inl (cI, 40, .inl fr)), (sk, .inl (cI, 2, .inl gk))] hz9) [(m0, .inr (5, [.int u.1, .int el, .ref s0, .ref z0])), (s0, .inr (4, [.ref sh, .ref sa, .ref sc, .ref sv, .ref sr, .ref sl, .ref sk, .int cg, .int mt, .int qn, .ref sw, .ref m0])), (sl, .inl (cI, 2, .inl gl)), (sh, .inl (cI, 40, .inl fh)), (sa, .inl (cI, 40, .inl fa)), (sc, .inl (cI, 40, .inl fc)), (sv, .inl (cI, 40, .inl fv)), (sw, .inl (cI, 40, .inl u.2)), (sr, .inl (cI, 40, .inl fr)), (sk, .inl (cI, 2, .inl gk))] t) (va_A [(m0, .inr (5, [.int th, .int el, .ref s0, .ref z0])), (s0, .inr (4, [.ref sh, .ref sa, .ref sc, .ref sv, .ref sr, .ref sl, .ref sk, .int cg, .int mt, .int qn, .ref sw, .ref m0])), (sl, .inl (cI, 2, .inl gl)), (sh, .inl (cI, 40, .inl fh)), (sa, .inl (cI, 40, .inl fa)), (sc, .inl (cI, 40, .inl fc)), (sv, .inl (cI, 40, .inl fv)), (sw, .inl (cI, 40, .inl rw)), (sr, .inl (cI, 40, .inl fr)), (sk, .inl (cI, 2, .inl gk))] hz9)) 5 25 (va_A [(m0, .inr (5, [.int th, .int el, .ref s0, .ref z0])), (s0, .inr (4, [.ref sh, .ref sa, .ref sc, .ref sv, .ref sr, .ref sl, .ref sk, .int cg, .int mt, .int qn, .ref sw, .ref m0])), (sl, .inl (cI, 2, .inl gl)), (sh, .inl (cI, 40, .inl fh)), (sa, .inl (cI, 40, .inl fa)), (sc, .inl (cI, 40, .inl fc)), (sv, .inl (cI, 40, .inl fv)), (sw, .inl (cI, 40, .inl rw)), (sr, .inl (cI, 40, .inl fr)), (sk, .inl (cI, 2, .inl gk))] hz9) := by
  refine Met.ofW (cc := cX5_digest) (maxL := 7) (ret := (Option.some .long)) (by decide) rfl ?_
  intro p e s m args below meth c s₁ hBd hml hv
  obtain ⟨rfl, hsz, hP, hD, hK, hT, hZ⟩ := hv
  have hx := hBd.exec
  have hb := hBd.bytes
  have hr := hBd.returns
  have hts : ∀ w ∈ lw_G, w.before _ s = true := fun w h => atoms_spec (ws := ws_ yX5_digest cX5_digest 7 (Option.some .long)) hBd.pre w (List.mem_cons_of_mem _ h)
  have hown : s.vm.findClass RX5 = some m.cls := findClass_of_methodNamed hBd.named
  have hlocks := hBd.notSynchronized
  subst hsz
  have hD := hD.self (sz := s.heap.size)
  have hZA := hZ.own hP
  generalize hAe : va_A [(m0, .inr (5, [.int th, .int el, .ref s0, .ref z0])), (s0, .inr (4, [.ref sh, .ref sa, .ref sc, .ref sv, .ref sr, .ref sl, .ref sk, .int cg, .int mt, .int qn, .ref sw, .ref m0])), (sl, .inl (cI, 2, .inl gl)), (sh, .inl (cI, 40, .inl fh)), (sa, .inl (cI, 40, .inl fa)), (sc, .inl (cI, 40, .inl fc)), (sv, .inl (cI, 40, .inl fv)), (sw, .inl (cI, 40, .inl rw)), (sr, .inl (cI, 40, .inl fr)), (sk, .inl (cI, 2, .inl gk))] s.heap.size = A at hD hZA ⊢
  have hA : ∀ q : Nat, s.heap.size ≤ q → A q := fun q h => by rw [← hAe]; exact Or.inr h
  have hZ := hZA
  have hS : va_S A s.heap s.heap [] := va_S.rf
  have hl := lv_entry ([.ref m0]) (n := 7) (Nat.le_of_ble_eq_true rfl)
  rw [lg_entry_eq]
  generalize (lg_sl ([.ref m0]) ++ List.replicate (7 - (lg_sl ([.ref m0])).length) Slot.unset).toArray = ls at hl ⊢
  have hl : lv_has ls 7 [(0, .ref m0)] := hl
  have hP : va_P D vwCl [(m0, .inr (5, [.int th, .int el, .ref s0, .ref z0])), (s0, .inr (4, [.ref sh, .ref sa, .ref sc, .ref sv, .ref sr, .ref sl, .ref sk, .int cg, .int mt, .int qn, .ref sw, .ref m0])), (sl, .inl (cI, 2, .inl gl)), (sh, .inl (cI, 40, .inl fh)), (sa, .inl (cI, 40, .inl fa)), (sc, .inl (cI, 40, .inl fc)), (sv, .inl (cI, 40, .inl fv)), (sw, .inl (cI, 40, .inl rw)), (sr, .inl (cI, 40, .inl fr)), (sk, .inl (cI, 2, .inl gk))] s.heap := hP
  obtain ⟨cm, g, hgG, hmc⟩ := id hms
  obtain ⟨hem, hat, hca, hlw, hcg, hH⟩ := id hmc
  obtain ⟨hn, hn4, hfh⟩ := id hem
  have hst : MSt (n, Hh, av, lo, Ls, rk, fv, gk, mt, qn) (G + 40) el fh fa fc gl cg fv fr gk mt qn := ⟨MS_mono hms (by omega), hrk, rfl, rfl, rfl, rfl⟩
  have hH2 : ∀ h, h < 2 → inH n av h (Ls h) ∧ (Ls h).Nodup := fun h hh => ⟨(hH h hh).1, ord_nodup (hH h hh).2.1⟩
  refine lv_aload_n hx hb dX5_digest_0 rfl (lv_at hl 0 rfl) ?_
  refine lz_iconst hx hb dX5_digest_1 (fun x_1 v_1 => ?_)
  refine va_put (D := D) (ci := 5) (v := .int x_1) (ty := .int) (C := RX5) (T := TX5) (N := 4) hx hb hts iX5 tyX5 tyX5_ok nmX5 hown hK hP hD hS 0 rfl rfl 0 (by decide) (hts _ qw640) (fun _ h9 => h9) rfl (by decide +kernel) rfl rfl (Nat.le_of_ble_eq_true rfl) dX5_digest_2 (fun H locs hP hD hS => ?_)
  have hP : va_P D vwCl [(m0, .inr (5, [.int x_1, .int el, .ref s0, .ref z0])), (s0, .inr (4, [.ref sh, .ref sa, .ref sc, .ref sv, .ref sr, .ref sl, .ref sk, .int cg, .int mt, .int qn, .ref sw, .ref m0])), (sl, .inl (cI, 2, .inl gl)), (sh, .inl (cI, 40, .inl fh)), (sa, .inl (cI, 40, .inl fa)), (sc, .inl (cI, 40, .inl fc)), (sv, .inl (cI, 40, .inl fv)), (sw, .inl (cI, 40, .inl rw)), (sr, .inl (cI, 40, .inl fr)), (sk, .inl (cI, 2, .inl gk))] H := hP
  have hD : va_D A [(m0, .inr (5, [.int x_1, .int el, .ref s0, .ref z0])), (s0, .inr (4, [.ref sh, .ref sa, .ref sc, .ref sv, .ref sr, .ref sl, .ref sk, .int cg, .int mt, .int qn, .ref sw, .ref m0])), (sl, .inl (cI, 2, .inl gl)), (sh, .inl (cI, 40, .inl fh)), (sa, .inl (cI, 40, .inl fa)), (sc, .inl (cI, 40, .inl fc)), (sv, .inl (cI, 40, .inl fv)), (sw, .inl (cI, 40, .inl rw)), (sr, .inl (cI, 40, .inl fr)), (sk, .inl (cI, 2, .inl gk))] := hD
  refine lv_ldc2 (v := (1489 : Int64)) hx hb hown (hts _ qw842) dX5_digest_5 ?_
  refine lv_topl (fun x_5 e_5 => ?_)
  refine lv_lstore_n (lv' := [(1, .long x_5), (0, .ref m0)]) hx hb dX5_digest_8 rfl hl (by decide) rfl (fun ls hl => ?_)
  refine lz_iconst hx hb dX5_digest_9 (fun x_9 v_9 => ?_)
  refine lv_istore_n (lv' := [(3, .int x_9), (1, .long x_5), (0, .ref m0)]) hx hb dX5_digest_10 rfl hl (by decide) rfl (fun ls hl => ?_)
  have key11 : ∀ (fu : Nat) (i : Nat) (ii : Int32) (dd : Int64) (H : Heap) (locs : List Loc) (ls : Array Slot), 6 - i < fu → (ii = iI (↑i)) → (i ≤ 5) → (dd = dgN (coF n ((Ls 0).length + (Ls 1).length) mt (gk 0 + gk 1) qn) 1489 i) → va_P D vwCl [(m0, .inr (5, [.int x_1, .int el, .ref s0, .ref z0])), (s0, .inr (4, [.ref sh, .ref sa, .ref sc, .ref sv, .ref sr, .ref sl, .ref sk, .int cg, .int mt, .int qn, .ref sw, .ref m0])), (sl, .inl (cI, 2, .inl gl)), (sh, .inl (cI, 40, .inl fh)), (sa, .inl (cI, 40, .inl fa)), (sc, .inl (cI, 40, .inl fc)), (sv, .inl (cI, 40, .inl fv)), (sw, .inl (cI, 40, .inl rw)), (sr, .inl (cI, 40, .inl fr)), (sk, .inl (cI, 2, .inl gk))] H → va_D A [(m0, .inr (5, [.int x_1, .int el, .ref s0, .ref z0])), (s0, .inr (4, [.ref sh, .ref sa, .ref sc, .ref sv, .ref sr, .ref sl, .ref sk, .int cg, .int mt, .int qn, .ref sw, .ref m0])), (sl, .inl (cI, 2, .inl gl)), (sh, .inl (cI, 40, .inl fh)), (sa, .inl (cI, 40, .inl fa)), (sc, .inl (cI, 40, .inl fc)), (sv, .inl (cI, 40, .inl fv)), (sw, .inl (cI, 40, .inl rw)), (sr, .inl (cI, 40, .inl fr)), (sk, .inl (cI, 2, .inl gk))] → va_S A s.heap H locs → lv_has ls 7 [(3, .int ii), (1, .long dd), (0, .ref m0)] → W p l e (headSpec (ws_ yX5_digest cX5_digest 7 (Option.some .long)) ({ frames := 5, cells := 5, slots := 25, locals := 110 })).room s m ([.ref m0] : List Value).toArray below meth c H locs i (5 * i) (MQ below (va_Ql (fun r (u : Int32 × (Nat → Int32)) => (u.1 = iI (0)) ∧ (r = diF n (lo 0) (lo 1) Hh (Ls 0) (Ls 1) av rk fv mt (gk 0) (gk 1) (gk 0 + gk 1) qn)) (fun (u : Int32 × (Nat → Int32)) t => wPost D A [(m0, .inr (5, [.int u.1, .int el, .ref s0, .ref z0])), (s0, .inr (4, [.ref sh, .ref sa, .ref sc, .ref sv, .ref sr, .ref sl, .ref sk, .int cg, .int mt, .int qn, .ref sw, .ref m0])), (sl, .inl (cI, 2, .inl gl)), (sh, .inl (cI, 40, .inl fh)), (sa, .inl (cI, 40, .inl fa)), (sc, .inl (cI, 40, .inl fc)), (sv, .inl (cI, 40, .inl fv)), (sw, .inl (cI, 40, .inl u.2)), (sr, .inl (cI, 40, .inl fr)), (sk, .inl (cI, 2, .inl gk))] t) A) ([.ref m0] : List Value).toArray s 5 25 A) (F0 m 11 ls []) := by
    intro fu
    induction fu with
    | zero => intros; omega
    | succ fu ih11 =>
      intro i ii dd H locs ls hfu hi hle hd hP hD hS hl
      refine lv_iload_n hx hb dX5_digest_11 rfl (lv_at hl 0 rfl) ?_
      refine lz_iconst hx hb dX5_digest_12 (fun x_12 v_12 => ?_)
      refine lz_icmp_gt (tgt := 35) hx hb hi v_12 ⟨by omega, by omega⟩ dX5_digest_13 (by decide) (fun c_13 => ?_) (fun c_13 => ?_)
      · have hd5 : dd = (hdI lo Hh Ls gk (dgN (coF n ((Ls 0).length + (Ls 1).length) mt (gk 0 + gk 1) qn) 1489 5) 0) := by rw [hd, show i = 5 by omega]; rfl
        refine W.widen (k := 5) (n := 25) (by omega) (by omega) ?_
        refine lz_iconst hx hb dX5_digest_35 (fun x_35 v_35 => ?_)
        refine lv_istore_n (lv' := [(3, .int x_35), (1, .long dd), (0, .ref m0)]) hx hb dX5_digest_36 rfl hl (by decide) rfl (fun ls hl => ?_)
        have key37 : ∀ (fu : Nat) (j : Nat) (jj : Int32) (dd : Int64) (rwj : Nat → Int32) (H : Heap) (locs : List Loc) (ls : Array Slot), 3 - j < fu → (jj = iI (↑j)) → (j ≤ 2) → (dd = (hdI lo Hh Ls gk (dgN (coF n ((Ls 0).length + (Ls 1).length) mt (gk 0 + gk 1) qn) 1489 5) j)) → va_P D vwCl [(m0, .inr (5, [.int x_1, .int el, .ref s0, .ref z0])), (s0, .inr (4, [.ref sh, .ref sa, .ref sc, .ref sv, .ref sr, .ref sl, .ref sk, .int cg, .int mt, .int qn, .ref sw, .ref m0])), (sl, .inl (cI, 2, .inl gl)), (sh, .inl (cI, 40, .inl fh)), (sa, .inl (cI, 40, .inl fa)), (sc, .inl (cI, 40, .inl fc)), (sv, .inl (cI, 40, .inl fv)), (sw, .inl (cI, 40, .inl rwj)), (sr, .inl (cI, 40, .inl fr)), (sk, .inl (cI, 2, .inl gk))] H → va_D A [(m0, .inr (5, [.int x_1, .int el, .ref s0, .ref z0])), (s0, .inr (4, [.ref sh, .ref sa, .ref sc, .ref sv, .ref sr, .ref sl, .ref sk, .int cg, .int mt, .int qn, .ref sw, .ref m0])), (sl, .inl (cI, 2, .inl gl)), (sh, .inl (cI, 40, .inl fh)), (sa, .inl (cI, 40, .inl fa)), (sc, .inl (cI, 40, .inl fc)), (sv, .inl (cI, 40, .inl fv)), (sw, .inl (cI, 40, .inl rwj)), (sr, .inl (cI, 40, .inl fr)), (sk, .inl (cI, 2, .inl gk))] → va_S A s.heap H locs → lv_has ls 7 [(3, .int jj), (1, .long dd), (0, .ref m0)] → W p l e (headSpec (ws_ yX5_digest cX5_digest 7 (Option.some .long)) ({ frames := 5, cells := 5, slots := 25, locals := 110 })).room s m ([.ref m0] : List Value).toArray below meth c H locs 5 25 (MQ below (va_Ql (fun r (u : Int32 × (Nat → Int32)) => (u.1 = iI (0)) ∧ (r = diF n (lo 0) (lo 1) Hh (Ls 0) (Ls 1) av rk fv mt (gk 0) (gk 1) (gk 0 + gk 1) qn)) (fun (u : Int32 × (Nat → Int32)) t => wPost D A [(m0, .inr (5, [.int u.1, .int el, .ref s0, .ref z0])), (s0, .inr (4, [.ref sh, .ref sa, .ref sc, .ref sv, .ref sr, .ref sl, .ref sk, .int cg, .int mt, .int qn, .ref sw, .ref m0])), (sl, .inl (cI, 2, .inl gl)), (sh, .inl (cI, 40, .inl fh)), (sa, .inl (cI, 40, .inl fa)), (sc, .inl (cI, 40, .inl fc)), (sv, .inl (cI, 40, .inl fv)), (sw, .inl (cI, 40, .inl u.2)), (sr, .inl (cI, 40, .inl fr)), (sk, .inl (cI, 2, .inl gk))] t) A) ([.ref m0] : List Value).toArray s 5 25 A) (F0 m 37 ls []) := by
          intro fu
          induction fu with
          | zero => intros; omega
          | succ fu ih37 =>
            intro j jj dd rwj H locs ls hfu hj hje hd hP hD hS hl
            refine lv_iload_n hx hb dX5_digest_37 rfl (lv_at hl 0 rfl) ?_
            refine lz_iconst hx hb dX5_digest_38 (fun x_38 v_38 => ?_)
            refine lz_icmp_ge (tgt := 150) hx hb hj v_38 ⟨by omega, by omega⟩ dX5_digest_39 (by decide) (fun c_39 => ?_) (fun c_39 => ?_)
            · have hd2 : dd = (hdI lo Hh Ls gk (dgN (coF n ((Ls 0).length + (Ls 1).length) mt (gk 0 + gk 1) qn) 1489 5) 2) := by rw [hd, show j = 2 by omega]
              refine lz_iconst hx hb dX5_digest_150 (fun x_150 v_150 => ?_)
              refine lv_istore_n (lv' := [(3, .int x_150), (1, .long dd), (0, .ref m0)]) hx hb dX5_digest_151 rfl hl (by decide) rfl (fun ls hl => ?_)
              have key152 : ∀ (fu : Nat) (i : Nat) (ii : Int32) (dd : Int64) (H : Heap) (locs : List Loc) (ls : Array Slot), n + 1 - i < fu → (ii = iI (↑i)) → (i ≤ n) → (dd = dgM (toF Hh av (lo 0) (lo 1) fv rk) (fun _ => 5) (hdI lo Hh Ls gk (dgN (coF n ((Ls 0).length + (Ls 1).length) mt (gk 0 + gk 1) qn) 1489 5) 2) i) → va_P D vwCl [(m0, .inr (5, [.int x_1, .int el, .ref s0, .ref z0])), (s0, .inr (4, [.ref sh, .ref sa, .ref sc, .ref sv, .ref sr, .ref sl, .ref sk, .int cg, .int mt, .int qn, .ref sw, .ref m0])), (sl, .inl (cI, 2, .inl gl)), (sh, .inl (cI, 40, .inl fh)), (sa, .inl (cI, 40, .inl fa)), (sc, .inl (cI, 40, .inl fc)), (sv, .inl (cI, 40, .inl fv)), (sw, .inl (cI, 40, .inl rwj)), (sr, .inl (cI, 40, .inl fr)), (sk, .inl (cI, 2, .inl gk))] H → va_D A [(m0, .inr (5, [.int x_1, .int el, .ref s0, .ref z0])), (s0, .inr (4, [.ref sh, .ref sa, .ref sc, .ref sv, .ref sr, .ref sl, .ref sk, .int cg, .int mt, .int qn, .ref sw, .ref m0])), (sl, .inl (cI, 2, .inl gl)), (sh, .inl (cI, 40, .inl fh)), (sa, .inl (cI, 40, .inl fa)), (sc, .inl (cI, 40, .inl fc)), (sv, .inl (cI, 40, .inl fv)), (sw, .inl (cI, 40, .inl rwj)), (sr, .inl (cI, 40, .inl fr)), (sk, .inl (cI, 2, .inl gk))] → va_S A s.heap H locs → lv_has ls 7 [(3, .int ii), (1, .long dd), (0, .ref m0)] → W p l e (headSpec (ws_ yX5_digest cX5_digest 7 (Option.some .long)) ({ frames := 5, cells := 5, slots := 25, locals := 110 })).room s m ([.ref m0] : List Value).toArray below meth c H locs 5 25 (MQ below (va_Ql (fun r (u : Int32 × (Nat → Int32)) => (u.1 = iI (0)) ∧ (r = diF n (lo 0) (lo 1) Hh (Ls 0) (Ls 1) av rk fv mt (gk 0) (gk 1) (gk 0 + gk 1) qn)) (fun (u : Int32 × (Nat → Int32)) t => wPost D A [(m0, .inr (5, [.int u.1, .int el, .ref s0, .ref z0])), (s0, .inr (4, [.ref sh, .ref sa, .ref sc, .ref sv, .ref sr, .ref sl, .ref sk, .int cg, .int mt, .int qn, .ref sw, .ref m0])), (sl, .inl (cI, 2, .inl gl)), (sh, .inl (cI, 40, .inl fh)), (sa, .inl (cI, 40, .inl fa)), (sc, .inl (cI, 40, .inl fc)), (sv, .inl (cI, 40, .inl fv)), (sw, .inl (cI, 40, .inl u.2)), (sr, .inl (cI, 40, .inl fr)), (sk, .inl (cI, 2, .inl gk))] t) A) ([.ref m0] : List Value).toArray s 5 25 A) (F0 m 152 ls []) := by
                intro fu
                induction fu with
                | zero => intros; omega
                | succ fu ih152 =>
                  intro i ii dd H locs ls hfu hi hle hd hP hD hS hl
                  refine lv_iload_n hx hb dX5_digest_152 rfl (lv_at hl 0 rfl) ?_
                  refine lv_aload_n hx hb dX5_digest_153 rfl (lv_at hl 2 rfl) ?_
                  refine va_get (D := D) (ci := 5) (v := .int el) (C := RX5) (T := TX5) (N := 4) hx hb hts iX5 hown hK hP 0 rfl rfl 1 (by decide) (hts _ qw641) (fun _ h9 => h9) rfl dX5_digest_154 ?_
                  refine lz_icmp_ge (tgt := 196) hx hb hi hn ⟨by omega, by omega⟩ dX5_digest_157 (by decide) (fun c_157 => ?_) (fun c_157 => ?_)
                  · have hin9 : i = n := by omega
                    rw [hin9] at hd
                    refine lv_lload_n hx hb dX5_digest_196 rfl (lv_at hl 1 rfl) ?_
                    have hP9 := va_P_subm (ws' := [(m0, .inr (5, [.int x_1, .int el, .ref s0, .ref z0])), (s0, .inr (4, [.ref sh, .ref sa, .ref sc, .ref sv, .ref sr, .ref sl, .ref sk, .int cg, .int mt, .int qn, .ref sw, .ref m0])), (sl, .inl (cI, 2, .inl gl)), (sh, .inl (cI, 40, .inl fh)), (sa, .inl (cI, 40, .inl fa)), (sc, .inl (cI, 40, .inl fc)), (sv, .inl (cI, 40, .inl fv)), (sw, .inl (cI, 40, .inl rwj)), (sr, .inl (cI, 40, .inl fr)), (sk, .inl (cI, 2, .inl gk))]) hP [0, 1, 2, 3, 4, 5, 6, 7, 8, 9] rfl
                    have hD9 := hD.sub (ws' := [(m0, .inr (5, [.int x_1, .int el, .ref s0, .ref z0])), (s0, .inr (4, [.ref sh, .ref sa, .ref sc, .ref sv, .ref sr, .ref sl, .ref sk, .int cg, .int mt, .int qn, .ref sw, .ref m0])), (sl, .inl (cI, 2, .inl gl)), (sh, .inl (cI, 40, .inl fh)), (sa, .inl (cI, 40, .inl fa)), (sc, .inl (cI, 40, .inl fc)), (sv, .inl (cI, 40, .inl fv)), (sw, .inl (cI, 40, .inl rwj)), (sr, .inl (cI, 40, .inl fr)), (sk, .inl (cI, 2, .inl gk))]) [0, 1, 2, 3, 4, 5, 6, 7, 8, 9] rfl rfl
                    refine W.widen (k := 5) (n := 25) (by omega) (by omega) ?_
                    exact W.lret (v := dd) hx hb hr (fun t ht hW => ⟨⟨dd, ⟨x_1, rwj⟩, rfl, ⟨v_1, hd⟩, ⟨by rw [ht]; exact hP9, hD9⟩⟩, hS.F ht⟩) hS.2.2 dX5_digest_197
                  · refine lz_iconst hx hb dX5_digest_160 (fun x_160 v_160 => ?_)
                    refine lv_istore (lv' := [(4, .int x_160), (3, .int ii), (1, .long dd), (0, .ref m0)]) hx hb dX5_digest_161 hl (by decide) rfl (fun ls hl => ?_)
                    have key163 : ∀ (fu : Nat) (j : Nat) (jj : Int32) (de : Int64) (H : Heap) (locs : List Loc) (ls : Array Slot), 6 - j < fu → (jj = iI (↑j)) → (j ≤ 5) → (de = dgN ((toF Hh av (lo 0) (lo 1) fv rk) i) dd j) → va_P D vwCl [(m0, .inr (5, [.int x_1, .int el, .ref s0, .ref z0])), (s0, .inr (4, [.ref sh, .ref sa, .ref sc, .ref sv, .ref sr, .ref sl, .ref sk, .int cg, .int mt, .int qn, .ref sw, .ref m0])), (sl, .inl (cI, 2, .inl gl)), (sh, .inl (cI, 40, .inl fh)), (sa, .inl (cI, 40, .inl fa)), (sc, .inl (cI, 40, .inl fc)), (sv, .inl (cI, 40, .inl fv)), (sw, .inl (cI, 40, .inl rwj)), (sr, .inl (cI, 40, .inl fr)), (sk, .inl (cI, 2, .inl gk))] H → va_D A [(m0, .inr (5, [.int x_1, .int el, .ref s0, .ref z0])), (s0, .inr (4, [.ref sh, .ref sa, .ref sc, .ref sv, .ref sr, .ref sl, .ref sk, .int cg, .int mt, .int qn, .ref sw, .ref m0])), (sl, .inl (cI, 2, .inl gl)), (sh, .inl (cI, 40, .inl fh)), (sa, .inl (cI, 40, .inl fa)), (sc, .inl (cI, 40, .inl fc)), (sv, .inl (cI, 40, .inl fv)), (sw, .inl (cI, 40, .inl rwj)), (sr, .inl (cI, 40, .inl fr)), (sk, .inl (cI, 2, .inl gk))] → va_S A s.heap H locs → lv_has ls 7 [(4, .int jj), (3, .int ii), (1, .long de), (0, .ref m0)] → W p l e (headSpec (ws_ yX5_digest cX5_digest 7 (Option.some .long)) ({ frames := 5, cells := 5, slots := 25, locals := 110 })).room s m ([.ref m0] : List Value).toArray below meth c H locs 5 25 (MQ below (va_Ql (fun r (u : Int32 × (Nat → Int32)) => (u.1 = iI (0)) ∧ (r = diF n (lo 0) (lo 1) Hh (Ls 0) (Ls 1) av rk fv mt (gk 0) (gk 1) (gk 0 + gk 1) qn)) (fun (u : Int32 × (Nat → Int32)) t => wPost D A [(m0, .inr (5, [.int u.1, .int el, .ref s0, .ref z0])), (s0, .inr (4, [.ref sh, .ref sa, .ref sc, .ref sv, .ref sr, .ref sl, .ref sk, .int cg, .int mt, .int qn, .ref sw, .ref m0])), (sl, .inl (cI, 2, .inl gl)), (sh, .inl (cI, 40, .inl fh)), (sa, .inl (cI, 40, .inl fa)), (sc, .inl (cI, 40, .inl fc)), (sv, .inl (cI, 40, .inl fv)), (sw, .inl (cI, 40, .inl u.2)), (sr, .inl (cI, 40, .inl fr)), (sk, .inl (cI, 2, .inl gk))] t) A) ([.ref m0] : List Value).toArray s 5 25 A) (F0 m 163 ls []) := by
                      intro fu
                      induction fu with
                      | zero => intros; omega
                      | succ fu ih163 =>
                        intro j jj de H locs ls hfu hj hje he hP hD hS hl
                        refine lv_iload hx hb dX5_digest_163 (lv_at hl 0 rfl) ?_
                        refine lz_iconst hx hb dX5_digest_165 (fun x_165 v_165 => ?_)
                        refine lz_icmp_gt (tgt := 190) hx hb hj v_165 ⟨by omega, by omega⟩ dX5_digest_166 (by decide) (fun c_166 => ?_) (fun c_166 => ?_)
                        · refine lz_iinc (lv2 := fun z => [(3, .int z), (4, .int jj), (1, .long de), (0, .ref m0)]) hx hb dX5_digest_190 hl (k := 1) rfl hi (by decide) (fun _ => rfl) (fun x_190 ls v_190 hl => ?_)
                          refine lv_goto (tgt := 152) hx hb dX5_digest_193 (by decide) ?_
                          exact ih152 (i + 1) x_190 de _ _ _ (by omega) (v_190.trans (congrArg iI (by omega))) (by omega) (by rw [he, show j = 5 by omega, hd]; exact (dgM_s _ _ _ _).symm) hP hD hS (lv_sub hl [0, 2, 3] rfl)
                        · refine lv_lload_n hx hb dX5_digest_169 rfl (lv_at hl 2 rfl) ?_
                          refine lv_ldc2 (v := (31 : Int64)) hx hb hown (hts _ qw843) dX5_digest_170 ?_
                          refine lv_topl (fun x_170 e_170 => ?_)
                          refine lv_lmul hx hb dX5_digest_173 ?_
                          refine lv_topl (fun x_173 e_173 => ?_)
                          refine lv_aload_n hx hb dX5_digest_174 rfl (lv_at hl 3 rfl) ?_
                          refine lv_iload_n hx hb dX5_digest_175 rfl (lv_at hl 1 rfl) ?_
                          refine lv_iload hx hb dX5_digest_176 (lv_at hl 0 rfl) ?_
                          refine cr_i (va_runV (As := [.int ii, .int jj]) (rest := [.long x_173]) ⟨hx, hb, hml, hown, hts⟩ (k_X5_emberTold l D cI cZ cJ _ m0 ii jj x_1 el s0 z0 sh sa sc sv sr sl sk cg mt qn sw gl fh fa fv fr n i Hh av lo (rk i) (↑j) (hem) (hat) (hlw) (hi.trans (congrArg iI (by omega))) (by omega) ((hrk.1 i (by omega)).1) (hj.trans (congrArg iI (by omega))) (by omega)) (cwV 2 hts (gV qw792 qw794 qw15 qw23 qw795) rfl rfl rfl (by decide +kernel) ⟨Nat.le_of_ble_eq_true rfl, Nat.le_of_ble_eq_true rfl⟩) (pv (ci := 5) (r := (RX5, TX5, 4)) (q0 := 0) hP hD hK hT hZ hS [0, 1, 2, 3, 4, 6, 8] rfl rfl rfl rfl) rfl rfl hl.1 rfl (lv_room (Nat.le_of_ble_eq_true rfl)) dX5_digest_178 ⟨Nat.le_of_ble_eq_true rfl, Nat.le_of_ble_eq_true rfl⟩) hS hP (fun x_178 H locs hw_178 hP hS => ?_)
                          have hw_178 : (x_178 = toV (Hh i) (av i) (bkA (av i) (lo 0) (lo 1) (Hh i)) (fv i) (rk i) (↑j)) := hw_178
                          have v_178 := hw_178
                          refine lv_i2l hx hb dX5_digest_181 rfl ?_
                          refine lv_topl (fun x_181 e_181 => ?_)
                          refine lv_ladd hx hb dX5_digest_182 ?_
                          refine lv_topl (fun x_182 e_182 => ?_)
                          refine lv_lstore_n (lv' := [(1, .long x_182), (4, .int jj), (3, .int ii), (0, .ref m0)]) hx hb dX5_digest_183 rfl hl (by decide) rfl (fun ls hl => ?_)
                          refine lz_iinc (lv2 := fun z => [(4, .int z), (1, .long x_182), (3, .int ii), (0, .ref m0)]) hx hb dX5_digest_184 hl (k := 1) rfl hj (by decide) (fun _ => rfl) (fun x_184 ls v_184 hl => ?_)
                          refine lv_goto (tgt := 163) hx hb dX5_digest_187 (by decide) ?_
                          exact ih163 (j + 1) x_184 x_182 _ _ _ (by omega) (v_184.trans (congrArg iI (by omega))) (by omega) (by rw [e_182, e_173, e_170, e_181, v_178, he]; exact (dgN_s _ _ _).symm) hP hD hS (lv_sub hl [0, 2, 1, 3] rfl)
                    exact key163 _ 0 x_160 dd _ _ _ (Nat.lt_succ_self _) (v_160.trans (congrArg iI (by omega))) (by omega) (rfl) hP hD hS (lv_sub hl [0, 1, 2, 3] rfl)
              exact key152 _ 0 x_150 dd _ _ _ (Nat.lt_succ_self _) (v_150.trans (congrArg iI (by omega))) (by omega) (hd2) hP hD hS (lv_sub hl [0, 1, 2] rfl)
            · obtain ⟨hok, hlo4, hLn, hL4⟩ := MSc_ok hmc (show j < 2 by omega)
              obtain ⟨hinj, horj, -⟩ := hH j (by omega)
              refine lz_iconst hx hb dX5_digest_42 (fun x_42 v_42 => ?_)
              refine lv_istore (lv' := [(4, .int x_42), (3, .int jj), (1, .long dd), (0, .ref m0)]) hx hb dX5_digest_43 hl (by decide) rfl (fun ls hl => ?_)
              have key45 : ∀ (fu : Nat) (i : Nat) (ii : Int32) (de : Int64) (H : Heap) (locs : List Loc) (ls : Array Slot), 7 - i < fu → (ii = iI (↑i)) → (i ≤ 6) → (de = dgN (abF (lo j) Hh (Ls j) (gk j)) dd i) → va_P D vwCl [(m0, .inr (5, [.int x_1, .int el, .ref s0, .ref z0])), (s0, .inr (4, [.ref sh, .ref sa, .ref sc, .ref sv, .ref sr, .ref sl, .ref sk, .int cg, .int mt, .int qn, .ref sw, .ref m0])), (sl, .inl (cI, 2, .inl gl)), (sh, .inl (cI, 40, .inl fh)), (sa, .inl (cI, 40, .inl fa)), (sc, .inl (cI, 40, .inl fc)), (sv, .inl (cI, 40, .inl fv)), (sw, .inl (cI, 40, .inl rwj)), (sr, .inl (cI, 40, .inl fr)), (sk, .inl (cI, 2, .inl gk))] H → va_D A [(m0, .inr (5, [.int x_1, .int el, .ref s0, .ref z0])), (s0, .inr (4, [.ref sh, .ref sa, .ref sc, .ref sv, .ref sr, .ref sl, .ref sk, .int cg, .int mt, .int qn, .ref sw, .ref m0])), (sl, .inl (cI, 2, .inl gl)), (sh, .inl (cI, 40, .inl fh)), (sa, .inl (cI, 40, .inl fa)), (sc, .inl (cI, 40, .inl fc)), (sv, .inl (cI, 40, .inl fv)), (sw, .inl (cI, 40, .inl rwj)), (sr, .inl (cI, 40, .inl fr)), (sk, .inl (cI, 2, .inl gk))] → va_S A s.heap H locs → lv_has ls 7 [(4, .int ii), (3, .int jj), (1, .long de), (0, .ref m0)] → W p l e (headSpec (ws_ yX5_digest cX5_digest 7 (Option.some .long)) ({ frames := 5, cells := 5, slots := 25, locals := 110 })).room s m ([.ref m0] : List Value).toArray below meth c H locs 5 25 (MQ below (va_Ql (fun r (u : Int32 × (Nat → Int32)) => (u.1 = iI (0)) ∧ (r = diF n (lo 0) (lo 1) Hh (Ls 0) (Ls 1) av rk fv mt (gk 0) (gk 1) (gk 0 + gk 1) qn)) (fun (u : Int32 × (Nat → Int32)) t => wPost D A [(m0, .inr (5, [.int u.1, .int el, .ref s0, .ref z0])), (s0, .inr (4, [.ref sh, .ref sa, .ref sc, .ref sv, .ref sr, .ref sl, .ref sk, .int cg, .int mt, .int qn, .ref sw, .ref m0])), (sl, .inl (cI, 2, .inl gl)), (sh, .inl (cI, 40, .inl fh)), (sa, .inl (cI, 40, .inl fa)), (sc, .inl (cI, 40, .inl fc)), (sv, .inl (cI, 40, .inl fv)), (sw, .inl (cI, 40, .inl u.2)), (sr, .inl (cI, 40, .inl fr)), (sk, .inl (cI, 2, .inl gk))] t) A) ([.ref m0] : List Value).toArray s 5 25 A) (F0 m 45 ls []) := by
                intro fu
                induction fu with
                | zero => intros; omega
                | succ fu ih45 =>
                  intro i ii de H locs ls hfu hi hle he hP hD hS hl
                  refine lv_iload hx hb dX5_digest_45 (lv_at hl 0 rfl) ?_
                  refine lz_iconst hx hb dX5_digest_47 (fun x_47 v_47 => ?_)
                  refine lz_icmp_gt (tgt := 72) hx hb hi v_47 ⟨by omega, by omega⟩ dX5_digest_48 (by decide) (fun c_48 => ?_) (fun c_48 => ?_)
                  · refine lz_iconst hx hb dX5_digest_72 (fun x_72 v_72 => ?_)
                    refine lv_istore (lv' := [(4, .int x_72), (3, .int jj), (1, .long de), (0, .ref m0)]) hx hb dX5_digest_73 hl (by decide) rfl (fun ls hl => ?_)
                    have key75 : ∀ (fu : Nat) (b : Nat) (bb : Int32) (df : Int64) (rwb : Nat → Int32) (H : Heap) (locs : List Loc) (ls : Array Slot), 12 - b < fu → (bb = iI (↑b)) → (b ≤ 11) → (df = dgM (bkV (cnt (ka (lo j) Hh) (Ls j)) (Ls j)) (bmF (cnt (ka (lo j) Hh) (Ls j))) (dgN (abF (lo j) Hh (Ls j) (gk j)) dd 6) b) → va_P D vwCl [(m0, .inr (5, [.int x_1, .int el, .ref s0, .ref z0])), (s0, .inr (4, [.ref sh, .ref sa, .ref sc, .ref sv, .ref sr, .ref sl, .ref sk, .int cg, .int mt, .int qn, .ref sw, .ref m0])), (sl, .inl (cI, 2, .inl gl)), (sh, .inl (cI, 40, .inl fh)), (sa, .inl (cI, 40, .inl fa)), (sc, .inl (cI, 40, .inl fc)), (sv, .inl (cI, 40, .inl fv)), (sw, .inl (cI, 40, .inl rwb)), (sr, .inl (cI, 40, .inl fr)), (sk, .inl (cI, 2, .inl gk))] H → va_D A [(m0, .inr (5, [.int x_1, .int el, .ref s0, .ref z0])), (s0, .inr (4, [.ref sh, .ref sa, .ref sc, .ref sv, .ref sr, .ref sl, .ref sk, .int cg, .int mt, .int qn, .ref sw, .ref m0])), (sl, .inl (cI, 2, .inl gl)), (sh, .inl (cI, 40, .inl fh)), (sa, .inl (cI, 40, .inl fa)), (sc, .inl (cI, 40, .inl fc)), (sv, .inl (cI, 40, .inl fv)), (sw, .inl (cI, 40, .inl rwb)), (sr, .inl (cI, 40, .inl fr)), (sk, .inl (cI, 2, .inl gk))] → va_S A s.heap H locs → lv_has ls 7 [(4, .int bb), (3, .int jj), (1, .long df), (0, .ref m0)] → W p l e (headSpec (ws_ yX5_digest cX5_digest 7 (Option.some .long)) ({ frames := 5, cells := 5, slots := 25, locals := 110 })).room s m ([.ref m0] : List Value).toArray below meth c H locs 5 25 (MQ below (va_Ql (fun r (u : Int32 × (Nat → Int32)) => (u.1 = iI (0)) ∧ (r = diF n (lo 0) (lo 1) Hh (Ls 0) (Ls 1) av rk fv mt (gk 0) (gk 1) (gk 0 + gk 1) qn)) (fun (u : Int32 × (Nat → Int32)) t => wPost D A [(m0, .inr (5, [.int u.1, .int el, .ref s0, .ref z0])), (s0, .inr (4, [.ref sh, .ref sa, .ref sc, .ref sv, .ref sr, .ref sl, .ref sk, .int cg, .int mt, .int qn, .ref sw, .ref m0])), (sl, .inl (cI, 2, .inl gl)), (sh, .inl (cI, 40, .inl fh)), (sa, .inl (cI, 40, .inl fa)), (sc, .inl (cI, 40, .inl fc)), (sv, .inl (cI, 40, .inl fv)), (sw, .inl (cI, 40, .inl u.2)), (sr, .inl (cI, 40, .inl fr)), (sk, .inl (cI, 2, .inl gk))] t) A) ([.ref m0] : List Value).toArray s 5 25 A) (F0 m 75 ls []) := by
                      intro fu
                      induction fu with
                      | zero => intros; omega
                      | succ fu ih75 =>
                        intro b bb df rwb H locs ls hfu hbb hbe hf hP hD hS hl
                        refine lv_iload hx hb dX5_digest_75 (lv_at hl 0 rfl) ?_
                        refine lz_bipush hx hb (by decide) dX5_digest_77 (fun x_77 v_77 => ?_)
                        refine lz_icmp_ge (tgt := 144) hx hb hbb v_77 ⟨by omega, by omega⟩ dX5_digest_79 (by decide) (fun c_79 => ?_) (fun c_79 => ?_)
                        · have hd9 : df = (hdI lo Hh Ls gk (dgN (coF n ((Ls 0).length + (Ls 1).length) mt (gk 0 + gk 1) qn) 1489 5) (j + 1)) := by rw [hf, show b = 11 by omega, hd]; rfl
                          refine lz_iinc (lv2 := fun z => [(3, .int z), (4, .int bb), (1, .long df), (0, .ref m0)]) hx hb dX5_digest_144 hl (k := 1) rfl hj (by decide) (fun _ => rfl) (fun x_144 ls v_144 hl => ?_)
                          refine lv_goto (tgt := 37) hx hb dX5_digest_147 (by decide) ?_
                          exact ih37 (j + 1) x_144 df rwb _ _ _ (by omega) (v_144.trans (congrArg iI (by omega))) (by omega) (hd9) hP hD hS (lv_sub hl [0, 2, 3] rfl)
                        · refine lv_aload_n hx hb dX5_digest_82 rfl (lv_at hl 3 rfl) ?_
                          refine va_get (D := D) (ci := 5) (v := .ref s0) (C := RX5) (T := TX5) (N := 4) hx hb hts iX5 hown hK hP 0 rfl rfl 2 (by decide) (hts _ qw643) (fun _ h9 => h9) rfl dX5_digest_83 ?_
                          refine lv_iload_n hx hb dX5_digest_86 rfl (lv_at hl 1 rfl) ?_
                          refine lv_iload hx hb dX5_digest_87 (lv_at hl 0 rfl) ?_
                          refine cm_i (wr := [(sv, .inl (cI, 40, .inl fv)), (sr, .inl (cI, 40, .inl fr)), (sk, .inl (cI, 2, .inl gk))]) (va_runV (As := [.int jj, .int bb]) (rest := []) ⟨hx, hb, hml, hown, hts⟩ (k_X4_line l D cI cZ cJ _ s0 jj bb sh sa sc sv sr sl sk cg mt qn sw m0 x_1 el s0 z0 gl fh fa fc rwb n j Hh av cm lo (Ls j) b (hem) (hat) (hca) (hlw) (hj.trans (congrArg iI (by omega))) (by omega) (hinj) (horj) (hbb.trans (congrArg iI (by omega))) (by omega)) (cwV 2 hts (gV qw764 qw722 qw723 qw24 qw724) rfl rfl rfl (by decide +kernel) ⟨Nat.le_of_ble_eq_true rfl, Nat.le_of_ble_eq_true rfl⟩) (pv (ci := 4) (r := (RX4, TX4, 12)) (q0 := 1) hP hD hK hT hZ hS [1, 0, 2, 3, 4, 5, 7] rfl rfl rfl rfl) rfl rfl hl.1 rfl (lv_room (Nat.le_of_ble_eq_true rfl)) dX5_digest_89 ⟨Nat.le_of_ble_eq_true rfl, Nat.le_of_ble_eq_true rfl⟩) hS hP hD hA [1, 0, 2, 3, 4, 5, 7] [6, 8, 9] rfl rfl rfl (by decide) (fun x_89 u_89 H locs hw_89 hP hD hS => ?_)
                          obtain ⟨rw2_89, rfl⟩ : ∃ z, z = u_89 := ⟨_, rfl⟩
                          have hP : va_P D vwCl [(sv, .inl (cI, 40, .inl fv)), (sr, .inl (cI, 40, .inl fr)), (sk, .inl (cI, 2, .inl gk)), (s0, .inr (4, [.ref sh, .ref sa, .ref sc, .ref sv, .ref sr, .ref sl, .ref sk, .int cg, .int mt, .int qn, .ref sw, .ref m0])), (m0, .inr (5, [.int x_1, .int el, .ref s0, .ref z0])), (sl, .inl (cI, 2, .inl gl)), (sh, .inl (cI, 40, .inl fh)), (sa, .inl (cI, 40, .inl fa)), (sc, .inl (cI, 40, .inl fc)), (sw, .inl (cI, 40, .inl rw2_89))] H := hP
                          have hD : va_D A [(sv, .inl (cI, 40, .inl fv)), (sr, .inl (cI, 40, .inl fr)), (sk, .inl (cI, 2, .inl gk)), (s0, .inr (4, [.ref sh, .ref sa, .ref sc, .ref sv, .ref sr, .ref sl, .ref sk, .int cg, .int mt, .int qn, .ref sw, .ref m0])), (m0, .inr (5, [.int x_1, .int el, .ref s0, .ref z0])), (sl, .inl (cI, 2, .inl gl)), (sh, .inl (cI, 40, .inl fh)), (sa, .inl (cI, 40, .inl fa)), (sc, .inl (cI, 40, .inl fc)), (sw, .inl (cI, 40, .inl rw2_89))] := hD
                          have hw_89 : (x_89 = iI (↑(bkL (ka (lo j) Hh) (Ls j) b).length)) ∧ (rwIs rw2_89 (bkL (ka (lo j) Hh) (Ls j) b)) := hw_89
                          obtain ⟨v_89, w_89⟩ := hw_89
                          have hbl := bkL_len (ka (lo j) Hh) (Ls j) b
                          have hbl2 : (bkL (ka (lo j) Hh) (Ls j) b).length ≤ (Ls j).length := List.length_filter_le _ _
                          have a_89 : x_89 = iI ↑((cnt (ka (lo j) Hh) (Ls j)) b) := v_89.trans (congrArg iI (by rw [hbl]))
                          refine lv_istore (lv' := [(5, .int x_89), (4, .int bb), (3, .int jj), (1, .long df), (0, .ref m0)]) hx hb dX5_digest_92 hl (by decide) rfl (fun ls hl => ?_)
                          refine lv_lload_n hx hb dX5_digest_94 rfl (lv_at hl 3 rfl) ?_
                          refine lv_ldc2 (v := (31 : Int64)) hx hb hown (hts _ qw843) dX5_digest_95 ?_
                          refine lv_topl (fun x_95 e_95 => ?_)
                          refine lv_lmul hx hb dX5_digest_98 ?_
                          refine lv_topl (fun x_98 e_98 => ?_)
                          refine lv_iload hx hb dX5_digest_99 (lv_at hl 0 rfl) ?_
                          refine lv_i2l hx hb dX5_digest_101 rfl ?_
                          refine lv_topl (fun x_101 e_101 => ?_)
                          refine lv_ladd hx hb dX5_digest_102 ?_
                          refine lv_topl (fun x_102 e_102 => ?_)
                          refine lv_lstore_n (lv' := [(1, .long x_102), (5, .int x_89), (4, .int bb), (3, .int jj), (0, .ref m0)]) hx hb dX5_digest_103 rfl hl (by decide) rfl (fun ls hl => ?_)
                          refine lz_iconst hx hb dX5_digest_104 (fun x_104 v_104 => ?_)
                          refine lv_istore (lv' := [(6, .int x_104), (1, .long x_102), (5, .int x_89), (4, .int bb), (3, .int jj), (0, .ref m0)]) hx hb dX5_digest_105 hl (by decide) rfl (fun ls hl => ?_)
                          have key107 : ∀ (fu : Nat) (k : Nat) (kk : Int32) (dg : Int64) (H : Heap) (locs : List Loc) (ls : Array Slot), (cnt (ka (lo j) Hh) (Ls j)) b + 1 - k < fu → (kk = iI (↑k)) → (k ≤ (cnt (ka (lo j) Hh) (Ls j)) b) → (dg = dgN ((bkV (cnt (ka (lo j) Hh) (Ls j)) (Ls j)) b) df (k + 1)) → va_P D vwCl [(sv, .inl (cI, 40, .inl fv)), (sr, .inl (cI, 40, .inl fr)), (sk, .inl (cI, 2, .inl gk)), (s0, .inr (4, [.ref sh, .ref sa, .ref sc, .ref sv, .ref sr, .ref sl, .ref sk, .int cg, .int mt, .int qn, .ref sw, .ref m0])), (m0, .inr (5, [.int x_1, .int el, .ref s0, .ref z0])), (sl, .inl (cI, 2, .inl gl)), (sh, .inl (cI, 40, .inl fh)), (sa, .inl (cI, 40, .inl fa)), (sc, .inl (cI, 40, .inl fc)), (sw, .inl (cI, 40, .inl rw2_89))] H → va_D A [(sv, .inl (cI, 40, .inl fv)), (sr, .inl (cI, 40, .inl fr)), (sk, .inl (cI, 2, .inl gk)), (s0, .inr (4, [.ref sh, .ref sa, .ref sc, .ref sv, .ref sr, .ref sl, .ref sk, .int cg, .int mt, .int qn, .ref sw, .ref m0])), (m0, .inr (5, [.int x_1, .int el, .ref s0, .ref z0])), (sl, .inl (cI, 2, .inl gl)), (sh, .inl (cI, 40, .inl fh)), (sa, .inl (cI, 40, .inl fa)), (sc, .inl (cI, 40, .inl fc)), (sw, .inl (cI, 40, .inl rw2_89))] → va_S A s.heap H locs → lv_has ls 7 [(6, .int kk), (1, .long dg), (5, .int x_89), (4, .int bb), (3, .int jj), (0, .ref m0)] → W p l e (headSpec (ws_ yX5_digest cX5_digest 7 (Option.some .long)) ({ frames := 5, cells := 5, slots := 25, locals := 110 })).room s m ([.ref m0] : List Value).toArray below meth c H locs 5 25 (MQ below (va_Ql (fun r (u : Int32 × (Nat → Int32)) => (u.1 = iI (0)) ∧ (r = diF n (lo 0) (lo 1) Hh (Ls 0) (Ls 1) av rk fv mt (gk 0) (gk 1) (gk 0 + gk 1) qn)) (fun (u : Int32 × (Nat → Int32)) t => wPost D A [(m0, .inr (5, [.int u.1, .int el, .ref s0, .ref z0])), (s0, .inr (4, [.ref sh, .ref sa, .ref sc, .ref sv, .ref sr, .ref sl, .ref sk, .int cg, .int mt, .int qn, .ref sw, .ref m0])), (sl, .inl (cI, 2, .inl gl)), (sh, .inl (cI, 40, .inl fh)), (sa, .inl (cI, 40, .inl fa)), (sc, .inl (cI, 40, .inl fc)), (sv, .inl (cI, 40, .inl fv)), (sw, .inl (cI, 40, .inl u.2)), (sr, .inl (cI, 40, .inl fr)), (sk, .inl (cI, 2, .inl gk))] t) A) ([.ref m0] : List Value).toArray s 5 25 A) (F0 m 107 ls []) := by
                            intro fu
                            induction fu with
                            | zero => intros; omega
                            | succ fu ih107 =>
                              intro k kk dg H locs ls hfu hk hke hg hP hD hS hl
                              refine lv_iload hx hb dX5_digest_107 (lv_at hl 0 rfl) ?_
                              refine lv_iload hx hb dX5_digest_109 (lv_at hl 2 rfl) ?_
                              refine lz_icmp_ge (tgt := 138) hx hb hk a_89 ⟨by omega, by omega⟩ dX5_digest_111 (by decide) (fun c_111 => ?_) (fun c_111 => ?_)
                              · refine lz_iinc (lv2 := fun z => [(4, .int z), (6, .int kk), (1, .long dg), (5, .int x_89), (3, .int jj), (0, .ref m0)]) hx hb dX5_digest_138 hl (k := 3) rfl hbb (by decide) (fun _ => rfl) (fun x_138 ls v_138 hl => ?_)
                                refine lv_goto (tgt := 75) hx hb dX5_digest_141 (by decide) ?_
                                exact ih75 (b + 1) x_138 dg rw2_89 _ _ _ (by omega) (v_138.trans (congrArg iI (by omega))) (by omega) (by rw [hg, show k = (cnt (ka (lo j) Hh) (Ls j)) b by omega, hf]; exact (dgM_s _ _ _ _).symm) (va_P_subm hP [4, 3, 5, 6, 7, 8, 0, 9, 1, 2] rfl) (hD.sub [4, 3, 5, 6, 7, 8, 0, 9, 1, 2] rfl rfl) hS (lv_sub hl [0, 4, 2, 5] rfl)
                              · refine lv_lload_n hx hb dX5_digest_114 rfl (lv_at hl 1 rfl) ?_
                                refine lv_ldc2 (v := (31 : Int64)) hx hb hown (hts _ qw843) dX5_digest_115 ?_
                                refine lv_topl (fun x_115 e_115 => ?_)
                                refine lv_lmul hx hb dX5_digest_118 ?_
                                refine lv_topl (fun x_118 e_118 => ?_)
                                refine lv_aload_n hx hb dX5_digest_119 rfl (lv_at hl 5 rfl) ?_
                                refine va_get (D := D) (ci := 5) (v := .ref s0) (C := RX5) (T := TX5) (N := 4) hx hb hts iX5 hown hK hP 4 rfl rfl 2 (by decide) (hts _ qw643) (fun _ h9 => h9) rfl dX5_digest_120 ?_
                                refine va_getN (D := D) (ci := 4) (v := .ref sw) (C := RX4) (T := TX4) (N := 12) hx hb hts iX4 hown hK hP 3 rfl rfl 10 (by decide) (va_Nw.use rfl (hT.1 _ nw595)) (fun _ h9 => h9) rfl dX5_digest_123 ?_
                                refine lv_iload hx hb dX5_digest_126 (lv_at hl 0 rfl) ?_
                                refine lz_iald hx hb hK hP 9 0 rfl rfl hk (k) (by omega) (by omega) (by decide) dX5_digest_128 (fun x_128 e_128 => ?_)
                                have v_128 : x_128 = iI (↑((bkL (ka (lo j) Hh) (Ls j) b).getD k 0)) := e_128.trans (w_89 _ (by omega))
                                refine lv_i2l hx hb dX5_digest_129 rfl ?_
                                refine lv_topl (fun x_129 e_129 => ?_)
                                refine lv_ladd hx hb dX5_digest_130 ?_
                                refine lv_topl (fun x_130 e_130 => ?_)
                                refine lv_lstore_n (lv' := [(1, .long x_130), (6, .int kk), (5, .int x_89), (4, .int bb), (3, .int jj), (0, .ref m0)]) hx hb dX5_digest_131 rfl hl (by decide) rfl (fun ls hl => ?_)
                                refine lz_iinc (lv2 := fun z => [(6, .int z), (1, .long x_130), (5, .int x_89), (4, .int bb), (3, .int jj), (0, .ref m0)]) hx hb dX5_digest_132 hl (k := 1) rfl hk (by decide) (fun _ => rfl) (fun x_132 ls v_132 hl => ?_)
                                refine lv_goto (tgt := 107) hx hb dX5_digest_135 (by decide) ?_
                                exact ih107 (k + 1) x_132 x_130 _ _ _ (by omega) (v_132.trans (congrArg iI (by omega))) (by omega) (by rw [e_130, e_118, e_115, e_129, v_128, hg, bkL_getD hok.1 (by omega)]; exact (dgN_s _ _ _).symm) hP hD hS (lv_sub hl [0, 1, 2, 3, 4, 5] rfl)
                          exact key107 _ 0 x_104 x_102 _ _ _ (Nat.lt_succ_self _) (v_104.trans (congrArg iI (by omega))) (by omega) (by rw [e_102, e_98, e_95, e_101, a_89]; rfl) hP hD hS (lv_sub hl [0, 1, 2, 3, 4, 5] rfl)
                    exact key75 _ 0 x_72 de rwj _ _ _ (Nat.lt_succ_self _) (v_72.trans (congrArg iI (by omega))) (by omega) (by rw [he, show i = 6 by omega]; rfl) hP hD hS (lv_sub hl [0, 1, 2, 3] rfl)
                  · refine lv_lload_n hx hb dX5_digest_51 rfl (lv_at hl 2 rfl) ?_
                    refine lv_ldc2 (v := (31 : Int64)) hx hb hown (hts _ qw843) dX5_digest_52 ?_
                    refine lv_topl (fun x_52 e_52 => ?_)
                    refine lv_lmul hx hb dX5_digest_55 ?_
                    refine lv_topl (fun x_55 e_55 => ?_)
                    refine lv_aload_n hx hb dX5_digest_56 rfl (lv_at hl 3 rfl) ?_
                    refine lv_iload_n hx hb dX5_digest_57 rfl (lv_at hl 1 rfl) ?_
                    refine lv_iload hx hb dX5_digest_58 (lv_at hl 0 rfl) ?_
                    refine cr_i (va_runV (As := [.int jj, .int ii]) (rest := [.long x_55]) ⟨hx, hb, hml, hown, hts⟩ (k_X5_hearthTold l D cI cZ cJ _ m0 jj ii x_1 el s0 z0 sh sa sc sv sr sl sk cg mt qn sw gl fh fa gk n j Hh av lo (Ls j) (↑i) (hem) (hat) (hlw) (hj.trans (congrArg iI (by omega))) (by omega) (hinj) (hok) (hi.trans (congrArg iI (by omega))) (by omega)) (cwV 2 hts (gV qw778 qw780 qw14 qw23 qw781) rfl rfl rfl (by decide +kernel) ⟨Nat.le_of_ble_eq_true rfl, Nat.le_of_ble_eq_true rfl⟩) (pv (ci := 5) (r := (RX5, TX5, 4)) (q0 := 0) hP hD hK hT hZ hS [0, 1, 2, 3, 4, 9] rfl rfl rfl rfl) rfl rfl hl.1 rfl (lv_room (Nat.le_of_ble_eq_true rfl)) dX5_digest_60 ⟨Nat.le_of_ble_eq_true rfl, Nat.le_of_ble_eq_true rfl⟩) hS hP (fun x_60 H locs hw_60 hP hS => ?_)
                    have hw_60 : (x_60 = abV (lo j) Hh (Ls j) (gk j) (↑i)) := hw_60
                    have v_60 := hw_60
                    refine lv_i2l hx hb dX5_digest_63 rfl ?_
                    refine lv_topl (fun x_63 e_63 => ?_)
                    refine lv_ladd hx hb dX5_digest_64 ?_
                    refine lv_topl (fun x_64 e_64 => ?_)
                    refine lv_lstore_n (lv' := [(1, .long x_64), (4, .int ii), (3, .int jj), (0, .ref m0)]) hx hb dX5_digest_65 rfl hl (by decide) rfl (fun ls hl => ?_)
                    refine lz_iinc (lv2 := fun z => [(4, .int z), (1, .long x_64), (3, .int jj), (0, .ref m0)]) hx hb dX5_digest_66 hl (k := 1) rfl hi (by decide) (fun _ => rfl) (fun x_66 ls v_66 hl => ?_)
                    refine lv_goto (tgt := 45) hx hb dX5_digest_69 (by decide) ?_
                    exact ih45 (i + 1) x_66 x_64 _ _ _ (by omega) (v_66.trans (congrArg iI (by omega))) (by omega) (by rw [e_64, e_55, e_52, e_63, v_60, he]; exact (dgN_s _ _ _).symm) hP hD hS (lv_sub hl [0, 2, 1, 3] rfl)
              exact key45 _ 0 x_42 dd _ _ _ (Nat.lt_succ_self _) (v_42.trans (congrArg iI (by omega))) (by omega) (rfl) hP hD hS (lv_sub hl [0, 1, 2, 3] rfl)
        exact key37 _ 0 x_35 dd rw _ _ _ (Nat.lt_succ_self _) (v_35.trans (congrArg iI (by omega))) (by omega) (hd5) hP hD hS (lv_sub hl [0, 1, 2] rfl)
      · refine lv_lload_n hx hb dX5_digest_16 rfl (lv_at hl 1 rfl) ?_
        refine lv_ldc2 (v := (31 : Int64)) hx hb hown (hts _ qw843) dX5_digest_17 ?_
        refine lv_topl (fun x_17 e_17 => ?_)
        refine lv_lmul hx hb dX5_digest_20 ?_
        refine lv_topl (fun x_20 e_20 => ?_)
        refine lv_aload_n hx hb dX5_digest_21 rfl (lv_at hl 2 rfl) ?_
        refine lv_iload_n hx hb dX5_digest_22 rfl (lv_at hl 0 rfl) ?_
        refine cm_i (wr := [(sl, .inl (cI, 2, .inl gl)), (sh, .inl (cI, 40, .inl fh)), (sc, .inl (cI, 40, .inl fc)), (sv, .inl (cI, 40, .inl fv)), (sw, .inl (cI, 40, .inl rw)), (sr, .inl (cI, 40, .inl fr))]) (va_runV (As := [.int ii]) (rest := [.long x_20]) ⟨hx, hb, hml, hown, hts⟩ (k_X5_counted l D cI cZ cJ _ m0 ii x_1 el s0 z0 sh sa sc sv sr sl sk cg mt qn sw fa gk n av Ls (↑i) (hn) (hn4) (hat) (hH2) (hi.trans (congrArg iI (by omega))) (by omega)) (cwV 1 hts (gV qw800 qw802 qw16 qw23 qw803) rfl rfl rfl (by decide +kernel) ⟨Nat.le_of_ble_eq_true rfl, Nat.le_of_ble_eq_true rfl⟩) (pv (ci := 5) (r := (RX5, TX5, 4)) (q0 := 0) hP hD hK hT hZ hS [0, 1, 4, 9] rfl rfl rfl rfl) rfl rfl hl.1 rfl (lv_room (Nat.le_of_ble_eq_true rfl)) dX5_digest_23 ⟨(show _ ≤ 5 by omega), (show _ ≤ 25 by omega)⟩) hS hP hD hA [0, 1, 4, 9] [2, 3, 5, 6, 7, 8] rfl rfl rfl (by decide) (fun x_23 u_23 H locs hw_23 hP hD hS => ?_)
        have hP : va_P D vwCl [(sl, .inl (cI, 2, .inl gl)), (sh, .inl (cI, 40, .inl fh)), (sc, .inl (cI, 40, .inl fc)), (sv, .inl (cI, 40, .inl fv)), (sw, .inl (cI, 40, .inl rw)), (sr, .inl (cI, 40, .inl fr)), (m0, .inr (5, [.int x_1, .int el, .ref s0, .ref z0])), (s0, .inr (4, [.ref sh, .ref sa, .ref sc, .ref sv, .ref sr, .ref sl, .ref sk, .int cg, .int mt, .int qn, .ref sw, .ref m0])), (sa, .inl (cI, 40, .inl fa)), (sk, .inl (cI, 2, .inl gk))] H := hP
        have hD : va_D A [(sl, .inl (cI, 2, .inl gl)), (sh, .inl (cI, 40, .inl fh)), (sc, .inl (cI, 40, .inl fc)), (sv, .inl (cI, 40, .inl fv)), (sw, .inl (cI, 40, .inl rw)), (sr, .inl (cI, 40, .inl fr)), (m0, .inr (5, [.int x_1, .int el, .ref s0, .ref z0])), (s0, .inr (4, [.ref sh, .ref sa, .ref sc, .ref sv, .ref sr, .ref sl, .ref sk, .int cg, .int mt, .int qn, .ref sw, .ref m0])), (sa, .inl (cI, 40, .inl fa)), (sk, .inl (cI, 2, .inl gk))] := hD
        have hw_23 : (x_23 = coV n ((Ls 0).length + (Ls 1).length) mt (gk 0 + gk 1) qn (↑i)) := hw_23
        have v_23 := hw_23
        refine lv_i2l hx hb dX5_digest_26 rfl ?_
        refine lv_topl (fun x_26 e_26 => ?_)
        refine lv_ladd hx hb dX5_digest_27 ?_
        refine lv_topl (fun x_27 e_27 => ?_)
        refine lv_lstore_n (lv' := [(1, .long x_27), (3, .int ii), (0, .ref m0)]) hx hb dX5_digest_28 rfl hl (by decide) rfl (fun ls hl => ?_)
        refine lz_iinc (lv2 := fun z => [(3, .int z), (1, .long x_27), (0, .ref m0)]) hx hb dX5_digest_29 hl (k := 1) rfl hi (by decide) (fun _ => rfl) (fun x_29 ls v_29 hl => ?_)
        refine lv_goto (tgt := 11) hx hb dX5_digest_32 (by decide) ?_
        exact ih11 (i + 1) x_29 x_27 _ _ _ (by omega) (v_29.trans (congrArg iI (by omega))) (by omega) (by rw [e_27, e_20, e_17, e_26, v_23, hd]; exact (dgN_s _ _ _).symm) (va_P_subm hP [6, 7, 0, 1, 8, 2, 3, 4, 5, 9] rfl) (hD.sub [6, 7, 0, 1, 8, 2, 3, 4, 5, 9] rfl rfl) hS (lv_sub hl [0, 1, 2] rfl)
  exact key11 _ 0 x_9 x_5 _ _ _ (Nat.lt_succ_self _) (v_9.trans (congrArg iI (by omega))) (by omega) (e_5) hP hD hS (lv_sub hl [0, 1, 2] rfl)
