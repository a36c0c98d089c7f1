set_option maxHeartbeats 4000000 in
set_option maxRecDepth 100000 in
theorem k_X4_where (l : Launch) (D : va_G) (cI cZ cJ cK : ClassId) (hz9 : Nat) (t0 : Nat) (x0 : Int32) (lw : Nat) (rk : Nat) (hs : Nat) (em : Nat) (mt : Int32) (qn : Int32) (L : List Nat) (f : Nat → va_E) (eb : Nat) (n : Nat) (Hh : Nat → Nat) (mv : Nat → Int32) (rv : Nat → Int) (lo : Nat → Nat) (gk : Nat → Int32) (R : Nat → Nat → List Nat) (hSP : SimP cI cJ cK n Hh mv rv lo gk R lw rk hs em L f) (hxv : x0 = iI ↑eb) (hxb : eb < 1000) (hRb : ∀ h b, h < 2 → b < 11 → (∀ y ∈ R h b, y < 1000) ∧ (R h b).length ≤ 40) : Met l yX4_where (ws_ yX4_where cX4_where 8 (Option.some (.array .int))) ({ frames := 0, cells := 1, slots := 2, locals := 0 }) (va_Pc [.ref t0, .int x0] (wPre D cI cZ cJ cK hz9 ([(t0, .inr (4, [.ref lw, .ref rk, .ref hs, .ref em, .int mt, .int qn]))] ++ va_pl L f))) (va_Qr (fun (u : List Nat × (Nat → va_E)) => True) (fun (u : List Nat × (Nat → va_E)) r t => ((pExt L f u.1 u.2) ∧ (r ∈ u.1) ∧ (r ∉ L) ∧ (∃ g : Nat → Int32, u.2 r = .inl (cI, 2, .inl g) ∧ ((∃ h b, h < 2 ∧ b < 11 ∧ eb ∈ R h b ∧ g 0 = iI ↑h ∧ g 1 = iI ↑b) ∨ ((∀ h b, h < 2 → b < 11 → eb ∉ R h b) ∧ g 0 = iI (-1) ∧ g 1 = iI (-1))))) ∧ wPost D (va_A ([(t0, .inr (4, [.ref lw, .ref rk, .ref hs, .ref em, .int mt, .int qn]))] ++ va_pl L f) hz9) ([(t0, .inr (4, [.ref lw, .ref rk, .ref hs, .ref em, .int mt, .int qn]))] ++ va_pl u.1 u.2) t) (va_A ([(t0, .inr (4, [.ref lw, .ref rk, .ref hs, .ref em, .int mt, .int qn]))] ++ va_pl L f) hz9)) 1 2 (va_A ([(t0, .inr (4, [.ref lw, .ref rk, .ref hs, .ref em, .int mt, .int qn]))] ++ va_pl L f) hz9) := by
  refine Met.ofW (cc := cX4_where) (maxL := 8) (ret := (Option.some (.array .int))) (by decide) rfl ?_
  intro p e s m args below meth c s₁ hBd hml hv
  obtain ⟨rfl, hsz, hP, hD, hK, hT, hZ⟩ := hv
  have hx := hBd.exec
  have hb := hBd.bytes
  have hr := hBd.returns
  have hts : ∀ w ∈ lw_G, w.before _ s = true := fun w h => atoms_spec (ws := (ws_ yX4_where cX4_where 8 (Option.some (.array .int)))) hBd.pre w (List.mem_cons_of_mem _ h)
  have hown : s.vm.findClass RX4 = some m.cls := findClass_of_methodNamed hBd.named
  have hlocks := hBd.notSynchronized
  subst hsz
  have hD := hD.self (sz := s.heap.size)
  have hZA := hZ.own hP
  generalize hAe : va_A ([(t0, .inr (4, [.ref lw, .ref rk, .ref hs, .ref em, .int mt, .int qn]))] ++ va_pl L f) s.heap.size = A at hD hZA ⊢
  have hA : ∀ q : Nat, s.heap.size ≤ q → A q := fun q h => by rw [← hAe]; exact Or.inr h
  have hZ := hZA
  have hS : va_S A s.heap s.heap [] := va_S.rf
  have hl := lv_entry ([.ref t0, .int x0]) (n := 8) (Nat.le_of_ble_eq_true rfl)
  rw [lg_entry_eq]
  generalize (lg_sl ([.ref t0, .int x0]) ++ List.replicate (8 - (lg_sl ([.ref t0, .int x0])).length) Slot.unset).toArray = ls at hl ⊢
  have hl : lv_has ls 8 [(0, .ref t0), (1, .int x0)] := hl
  have hP : va_P D vwCl ([(t0, .inr (4, [.ref lw, .ref rk, .ref hs, .ref em, .int mt, .int qn]))] ++ va_pl L f) s.heap := hP
  obtain ⟨K, ha, ea, rr, qS⟩ := id hSP
  obtain ⟨⟨lw1, lw2, gl, lw3, lw4⟩, ⟨rk1, rk2, gg, rk3, rk4⟩, ⟨hs1, hs2, gs, hs3, hs4⟩, ⟨em1, em2, ge, em3, em4⟩, q5, q6, q7⟩ := id qS
  refine lz_iconst hx hb dX4_where_0 (fun x_0 v_0 => ?_)
  refine lv_istore_n (lv' := [(2, .int x_0), (0, .ref t0), (1, .int x0)]) hx hb dX4_where_1 rfl hl (by decide) rfl (fun ls hl => ?_)
  have key2 : ∀ (fu : Nat) (a9 : Nat) (aa : Int32) (H : Heap) (locs : List Loc) (ls : Array Slot), 3 - a9 < fu → (aa = iI (↑a9)) → (a9 ≤ 2) → (∀ h, h < a9 → ∀ b, b < 11 → eb ∉ R h b) → va_P D vwCl ([(t0, .inr (4, [.ref lw, .ref rk, .ref hs, .ref em, .int mt, .int qn]))] ++ va_pl L f) H → va_D A ([(t0, .inr (4, [.ref lw, .ref rk, .ref hs, .ref em, .int mt, .int qn]))] ++ va_pl L f) → va_S A s.heap H locs → lv_has ls 8 [(2, .int aa), (0, .ref t0), (1, .int x0)] → W p l e (headSpec (ws_ yX4_where cX4_where 8 (Option.some (.array .int))) ({ frames := 0, cells := 1, slots := 2, locals := 0 })).room s m ([.ref t0, .int x0] : List Value).toArray below meth c H locs 0 0 (MQ below (va_Qr (fun (u : List Nat × (Nat → va_E)) => True) (fun (u : List Nat × (Nat → va_E)) r t => ((pExt L f u.1 u.2) ∧ (r ∈ u.1) ∧ (r ∉ L) ∧ (∃ g : Nat → Int32, u.2 r = .inl (cI, 2, .inl g) ∧ ((∃ h b, h < 2 ∧ b < 11 ∧ eb ∈ R h b ∧ g 0 = iI ↑h ∧ g 1 = iI ↑b) ∨ ((∀ h b, h < 2 → b < 11 → eb ∉ R h b) ∧ g 0 = iI (-1) ∧ g 1 = iI (-1))))) ∧ wPost D A ([(t0, .inr (4, [.ref lw, .ref rk, .ref hs, .ref em, .int mt, .int qn]))] ++ va_pl u.1 u.2) t) A) ([.ref t0, .int x0] : List Value).toArray s 1 2 A) (F0 m 2 ls []) := by
    intro fu
    induction fu with
    | zero => intros; omega
    | succ fu ih2 =>
      intro a9 aa H locs ls hfu hia hla hN hP hD hS hl
      refine lv_iload_n hx hb dX4_where_2 rfl (lv_at hl 0 rfl) ?_
      refine lz_iconst hx hb dX4_where_3 (fun x_3 v_3 => ?_)
      refine lz_icmp_ge (tgt := 83) hx hb hia v_3 ⟨by omega, by omega⟩ dX4_where_4 (by decide) (fun c_4 => ?_) (fun c_4 => ?_)
      · refine lz_iconst hx hb dX4_where_83 (fun x_83 v_83 => ?_)
        refine pl_new hx hb (hts _ qw53) 0 rfl hK hP hD hS hA v_83 (2) (by omega) (by omega) (Nat.le_of_ble_eq_true rfl) (Nat.le_of_ble_eq_true rfl) dX4_where_84 (fun n_84 H hq_84 hP hD hS => ?_)
        have hP : va_P D vwCl ([(t0, .inr (4, [.ref lw, .ref rk, .ref hs, .ref em, .int mt, .int qn]))] ++ va_pl (L ++ [n_84]) (va_up f n_84 (.inl (cI, 2, .inl (fun _ => 0))))) H := hP
        have hD : va_D A ([(t0, .inr (4, [.ref lw, .ref rk, .ref hs, .ref em, .int mt, .int qn]))] ++ va_pl (L ++ [n_84]) (va_up f n_84 (.inl (cI, 2, .inl (fun _ => 0))))) := hD
        have hn_hs_n_84 : hs ≠ n_84 := fun z => hq_84 (by rw [← z]; exact hs1)
        refine lv_dup hx hb dX4_where_86 rfl ?_
        refine lz_iconst hx hb dX4_where_87 (fun x_87 v_87 => ?_)
        refine lz_iconst hx hb dX4_where_88 (fun x_88 v_88 => ?_)
        refine pl_iast hx hb hK hP hD hS 0 (List.mem_append_right _ List.mem_cons_self) (va_up_self _ _ _) rfl v_87 (0) (by omega) (by omega) (by omega) dX4_where_89 (fun f_89 H locs e_89 hP hD hS => ?_)
        rw [va_uu] at hP hD
        have hP : va_P D vwCl ([(t0, .inr (4, [.ref lw, .ref rk, .ref hs, .ref em, .int mt, .int qn]))] ++ va_pl (L ++ [n_84]) (va_up f n_84 (.inl (cI, 2, .inl f_89)))) H := hP
        have hD : va_D A ([(t0, .inr (4, [.ref lw, .ref rk, .ref hs, .ref em, .int mt, .int qn]))] ++ va_pl (L ++ [n_84]) (va_up f n_84 (.inl (cI, 2, .inl f_89)))) := hD
        refine lv_dup hx hb dX4_where_90 rfl ?_
        refine lz_iconst hx hb dX4_where_91 (fun x_91 v_91 => ?_)
        refine lz_iconst hx hb dX4_where_92 (fun x_92 v_92 => ?_)
        refine pl_iast hx hb hK hP hD hS 0 (List.mem_append_right _ List.mem_cons_self) (va_up_self _ _ _) rfl v_91 (1) (by omega) (by omega) (by omega) dX4_where_93 (fun f_93 H locs e_93 hP hD hS => ?_)
        rw [va_uu] at hP hD
        have hP : va_P D vwCl ([(t0, .inr (4, [.ref lw, .ref rk, .ref hs, .ref em, .int mt, .int qn]))] ++ va_pl (L ++ [n_84]) (va_up f n_84 (.inl (cI, 2, .inl f_93)))) H := hP
        have hD : va_D A ([(t0, .inr (4, [.ref lw, .ref rk, .ref hs, .ref em, .int mt, .int qn]))] ++ va_pl (L ++ [n_84]) (va_up f n_84 (.inl (cI, 2, .inl f_93)))) := hD
        have hP9 := hP
        have hD9 := hD
        refine W.widen (k := 1) (n := 2) (by omega) (by omega) ?_
        exact W.aret (v := .ref n_84) hx hb hr (Or.inr ⟨_, rfl⟩) (Or.inr ⟨_, rfl⟩) (fun t ht hW => ⟨⟨⟨(L ++ [n_84]), (va_up f n_84 (.inl (cI, 2, .inl f_93)))⟩, n_84, rfl, trivial, ⟨⟨pExt.new hq_84, (List.mem_append_right _ List.mem_cons_self), hq_84, ⟨f_93, va_up_self _ _ _, Or.inr ⟨fun h b h1 h2 => hN h (by omega) b h2, by rw [e_93, upd_n _ _ (by omega), e_89, upd_s, v_88], by rw [e_93, upd_s, v_92]⟩⟩⟩, ⟨by rw [ht]; exact hP9, hD9⟩⟩⟩, hS.F ht⟩) hS.2.2 dX4_where_94
      · refine lz_iconst hx hb dX4_where_7 (fun x_7 v_7 => ?_)
        refine lv_istore_n (lv' := [(3, .int x_7), (2, .int aa), (0, .ref t0), (1, .int x0)]) hx hb dX4_where_8 rfl hl (by decide) rfl (fun ls hl => ?_)
        have key9 : ∀ (fu : Nat) (b9 : Nat) (bb : Int32) (H : Heap) (locs : List Loc) (ls : Array Slot), 12 - b9 < fu → (bb = iI (↑b9)) → (b9 ≤ 11) → (∀ b, b < b9 → eb ∉ R a9 b) → va_P D vwCl ([(t0, .inr (4, [.ref lw, .ref rk, .ref hs, .ref em, .int mt, .int qn]))] ++ va_pl L f) H → va_D A ([(t0, .inr (4, [.ref lw, .ref rk, .ref hs, .ref em, .int mt, .int qn]))] ++ va_pl L f) → va_S A s.heap H locs → lv_has ls 8 [(3, .int bb), (2, .int aa), (0, .ref t0), (1, .int x0)] → W p l e (headSpec (ws_ yX4_where cX4_where 8 (Option.some (.array .int))) ({ frames := 0, cells := 1, slots := 2, locals := 0 })).room s m ([.ref t0, .int x0] : List Value).toArray below meth c H locs 0 0 (MQ below (va_Qr (fun (u : List Nat × (Nat → va_E)) => True) (fun (u : List Nat × (Nat → va_E)) r t => ((pExt L f u.1 u.2) ∧ (r ∈ u.1) ∧ (r ∉ L) ∧ (∃ g : Nat → Int32, u.2 r = .inl (cI, 2, .inl g) ∧ ((∃ h b, h < 2 ∧ b < 11 ∧ eb ∈ R h b ∧ g 0 = iI ↑h ∧ g 1 = iI ↑b) ∨ ((∀ h b, h < 2 → b < 11 → eb ∉ R h b) ∧ g 0 = iI (-1) ∧ g 1 = iI (-1))))) ∧ wPost D A ([(t0, .inr (4, [.ref lw, .ref rk, .ref hs, .ref em, .int mt, .int qn]))] ++ va_pl u.1 u.2) t) A) ([.ref t0, .int x0] : List Value).toArray s 1 2 A) (F0 m 9 ls []) := by
          intro fu
          induction fu with
          | zero => intros; omega
          | succ fu ih9 =>
            intro b9 bb H locs ls hfu hib hlb hN2 hP hD hS hl
            refine lv_iload_n hx hb dX4_where_9 rfl (lv_at hl 0 rfl) ?_
            refine lz_bipush hx hb (by decide) dX4_where_10 (fun x_10 v_10 => ?_)
            refine lz_icmp_ge (tgt := 77) hx hb hib v_10 ⟨by omega, by omega⟩ dX4_where_12 (by decide) (fun c_12 => ?_) (fun c_12 => ?_)
            · refine lz_iinc (lv2 := fun z => [(2, .int z), (3, .int bb), (0, .ref t0), (1, .int x0)]) hx hb dX4_where_77 hl (k := 1) rfl hia (by decide) (fun _ => rfl) (fun x_77 ls v_77 hl => ?_)
              refine lv_goto (tgt := 2) hx hb dX4_where_80 (by decide) ?_
              exact ih2 (a9 + 1) x_77 _ _ _ (by omega) (v_77.trans (congrArg iI (by omega))) (by omega) (by intro h hh; rcases Nat.lt_or_ge h a9 with q9 | q9; exact hN h q9; rw [show h = a9 by omega]; exact fun b hb9 => hN2 b (by omega)) hP hD hS (lv_sub hl [0, 2, 3] rfl)
            · obtain ⟨ha1, ha2, gh, ha3, ha4⟩ := q5 a9 (by omega)
              obtain ⟨rb1, rb2, gr, rb4, rb5⟩ := q6 a9 b9 (by omega) (by omega)
              obtain ⟨hy1, hy2⟩ := hRb a9 b9 (by omega) (by omega)
              refine lv_aload_n hx hb dX4_where_15 rfl (lv_at hl 2 rfl) ?_
              refine va_get (D := D) (ci := 4) (v := .ref hs) (C := RX4) (T := TX4) (N := 6) hx hb hts iX4 hown hK hP 0 rfl rfl 2 (by decide) (hts _ qw619) (fun _ h9 => h9) rfl dX4_where_16 ?_
              refine lv_iload_n hx hb dX4_where_19 rfl (lv_at hl 1 rfl) ?_
              refine rd_aald hx hb hK hP 3 (pl_mem hs1 hs3) rfl hia (a9) (by omega) (by omega) (by omega) (hs4 _ (by omega)) dX4_where_20 ?_
              refine lv_iload_n hx hb dX4_where_21 rfl (lv_at hl 0 rfl) ?_
              refine rd_aald hx hb hK hP 2 (pl_mem ha1 ha3) rfl hib (b9) (by omega) (by omega) (by omega) (ha4 _ (by omega)) dX4_where_22 ?_
              refine lv_astore (lv' := [(4, .ref (rr a9 b9)), (3, .int bb), (2, .int aa), (0, .ref t0), (1, .int x0)]) hx hb dX4_where_23 hl (by decide) rfl (fun ls hl => ?_)
              refine lv_aload hx hb dX4_where_25 (lv_at hl 0 rfl) ?_
              refine rd_alen hx hb hK hP 0 (pl_mem rb1 rb4) rfl dX4_where_27 (fun x_27 v_27 => ?_)
              have v_27 : x_27 = iI (↑((R a9 b9).length)) := v_27
              refine lv_istore (lv' := [(5, .int x_27), (4, .ref (rr a9 b9)), (3, .int bb), (2, .int aa), (0, .ref t0), (1, .int x0)]) hx hb dX4_where_28 hl (by decide) rfl (fun ls hl => ?_)
              refine lz_iconst hx hb dX4_where_30 (fun x_30 v_30 => ?_)
              refine lv_istore (lv' := [(6, .int x_30), (5, .int x_27), (4, .ref (rr a9 b9)), (3, .int bb), (2, .int aa), (0, .ref t0), (1, .int x0)]) hx hb dX4_where_31 hl (by decide) rfl (fun ls hl => ?_)
              have key33 : ∀ (fu : Nat) (k9 : Nat) (kk : Int32) (H : Heap) (locs : List Loc) (ls : Array Slot), (R a9 b9).length + 1 - k9 < fu → (kk = iI (↑k9)) → (k9 ≤ (R a9 b9).length) → (eb ∉ (R a9 b9).take k9) → va_P D vwCl ([(t0, .inr (4, [.ref lw, .ref rk, .ref hs, .ref em, .int mt, .int qn]))] ++ va_pl L f) H → va_D A ([(t0, .inr (4, [.ref lw, .ref rk, .ref hs, .ref em, .int mt, .int qn]))] ++ va_pl L f) → va_S A s.heap H locs → lv_has ls 8 [(6, .int kk), (5, .int x_27), (4, .ref (rr a9 b9)), (3, .int bb), (2, .int aa), (0, .ref t0), (1, .int x0)] → W p l e (headSpec (ws_ yX4_where cX4_where 8 (Option.some (.array .int))) ({ frames := 0, cells := 1, slots := 2, locals := 0 })).room s m ([.ref t0, .int x0] : List Value).toArray below meth c H locs 0 0 (MQ below (va_Qr (fun (u : List Nat × (Nat → va_E)) => True) (fun (u : List Nat × (Nat → va_E)) r t => ((pExt L f u.1 u.2) ∧ (r ∈ u.1) ∧ (r ∉ L) ∧ (∃ g : Nat → Int32, u.2 r = .inl (cI, 2, .inl g) ∧ ((∃ h b, h < 2 ∧ b < 11 ∧ eb ∈ R h b ∧ g 0 = iI ↑h ∧ g 1 = iI ↑b) ∨ ((∀ h b, h < 2 → b < 11 → eb ∉ R h b) ∧ g 0 = iI (-1) ∧ g 1 = iI (-1))))) ∧ wPost D A ([(t0, .inr (4, [.ref lw, .ref rk, .ref hs, .ref em, .int mt, .int qn]))] ++ va_pl u.1 u.2) t) A) ([.ref t0, .int x0] : List Value).toArray s 1 2 A) (F0 m 33 ls []) := by
                intro fu
                induction fu with
                | zero => intros; omega
                | succ fu ih33 =>
                  intro k9 kk H locs ls hfu hik hlk hN3 hP hD hS hl
                  refine lv_iload hx hb dX4_where_33 (lv_at hl 0 rfl) ?_
                  refine lv_iload hx hb dX4_where_35 (lv_at hl 1 rfl) ?_
                  refine lz_icmp_ge (tgt := 71) hx hb hik v_27 ⟨by omega, by omega⟩ dX4_where_37 (by decide) (fun c_37 => ?_) (fun c_37 => ?_)
                  · refine lz_iinc (lv2 := fun z => [(3, .int z), (6, .int kk), (5, .int x_27), (4, .ref (rr a9 b9)), (2, .int aa), (0, .ref t0), (1, .int x0)]) hx hb dX4_where_71 hl (k := 3) rfl hib (by decide) (fun _ => rfl) (fun x_71 ls v_71 hl => ?_)
                    refine lv_goto (tgt := 9) hx hb dX4_where_74 (by decide) ?_
                    exact ih9 (b9 + 1) x_71 _ _ _ (by omega) (v_71.trans (congrArg iI (by omega))) (by omega) (nm_next hN2 (nm_all hN3 (by omega))) hP hD hS (lv_sub hl [0, 4, 5, 6] rfl)
                  · have hgb := getD_bd hy1 k9
                    refine lv_aload hx hb dX4_where_40 (lv_at hl 2 rfl) ?_
                    refine lv_iload hx hb dX4_where_42 (lv_at hl 0 rfl) ?_
                    refine rd_iald hx hb hK hP 0 (pl_mem rb1 rb4) rfl hik (k9) (by omega) (by omega) (by omega) dX4_where_44 (fun x_44 e_44 => ?_)
                    have v_44 : x_44 = iI (↑((R a9 b9).getD k9 0)) := e_44.trans (rb5 _ (by omega))
                    refine lv_istore (lv' := [(7, .int x_44), (6, .int kk), (5, .int x_27), (4, .ref (rr a9 b9)), (3, .int bb), (2, .int aa), (0, .ref t0), (1, .int x0)]) hx hb dX4_where_45 hl (by decide) rfl (fun ls hl => ?_)
                    refine lv_iload hx hb dX4_where_47 (lv_at hl 0 rfl) ?_
                    refine lv_iload_n hx hb dX4_where_49 rfl (lv_at hl 7 rfl) ?_
                    refine lz_icmp_ne (tgt := 65) hx hb v_44 hxv ⟨by omega, by omega⟩ dX4_where_50 (by decide) (fun c_50 => ?_) (fun c_50 => ?_)
                    · refine lz_iinc (lv2 := fun z => [(6, .int z), (7, .int x_44), (5, .int x_27), (4, .ref (rr a9 b9)), (3, .int bb), (2, .int aa), (0, .ref t0), (1, .int x0)]) hx hb dX4_where_65 hl (k := 1) rfl hik (by decide) (fun _ => rfl) (fun x_65 ls v_65 hl => ?_)
                      refine lv_goto (tgt := 33) hx hb dX4_where_68 (by decide) ?_
                      exact ih33 (k9 + 1) x_65 _ _ _ (by omega) (v_65.trans (congrArg iI (by omega))) (by omega) (nm_take hN3 (by omega) c_50) hP hD hS (lv_sub hl [0, 2, 3, 4, 5, 6, 7] rfl)
                    · refine lz_iconst hx hb dX4_where_53 (fun x_53 v_53 => ?_)
                      refine pl_new hx hb (hts _ qw53) 0 rfl hK hP hD hS hA v_53 (2) (by omega) (by omega) (Nat.le_of_ble_eq_true rfl) (Nat.le_of_ble_eq_true rfl) dX4_where_54 (fun n_54 H hq_54 hP hD hS => ?_)
                      have hP : va_P D vwCl ([(t0, .inr (4, [.ref lw, .ref rk, .ref hs, .ref em, .int mt, .int qn]))] ++ va_pl (L ++ [n_54]) (va_up f n_54 (.inl (cI, 2, .inl (fun _ => 0))))) H := hP
                      have hD : va_D A ([(t0, .inr (4, [.ref lw, .ref rk, .ref hs, .ref em, .int mt, .int qn]))] ++ va_pl (L ++ [n_54]) (va_up f n_54 (.inl (cI, 2, .inl (fun _ => 0))))) := hD
                      have hn_hs_n_54 : hs ≠ n_54 := fun z => hq_54 (by rw [← z]; exact hs1)
                      have hn__ha_a9__n_54 : (ha a9) ≠ n_54 := fun z => hq_54 (by rw [← z]; exact ha1)
                      have hn__rr_a9_b9__n_54 : (rr a9 b9) ≠ n_54 := fun z => hq_54 (by rw [← z]; exact rb1)
                      refine lv_dup hx hb dX4_where_56 rfl ?_
                      refine lz_iconst hx hb dX4_where_57 (fun x_57 v_57 => ?_)
                      refine lv_iload_n hx hb dX4_where_58 rfl (lv_at hl 5 rfl) ?_
                      refine pl_iast hx hb hK hP hD hS 0 (List.mem_append_right _ List.mem_cons_self) (va_up_self _ _ _) rfl v_57 (0) (by omega) (by omega) (by omega) dX4_where_59 (fun f_59 H locs e_59 hP hD hS => ?_)
                      rw [va_uu] at hP hD
                      have hP : va_P D vwCl ([(t0, .inr (4, [.ref lw, .ref rk, .ref hs, .ref em, .int mt, .int qn]))] ++ va_pl (L ++ [n_54]) (va_up f n_54 (.inl (cI, 2, .inl f_59)))) H := hP
                      have hD : va_D A ([(t0, .inr (4, [.ref lw, .ref rk, .ref hs, .ref em, .int mt, .int qn]))] ++ va_pl (L ++ [n_54]) (va_up f n_54 (.inl (cI, 2, .inl f_59)))) := hD
                      refine lv_dup hx hb dX4_where_60 rfl ?_
                      refine lz_iconst hx hb dX4_where_61 (fun x_61 v_61 => ?_)
                      refine lv_iload_n hx hb dX4_where_62 rfl (lv_at hl 4 rfl) ?_
                      refine pl_iast hx hb hK hP hD hS 0 (List.mem_append_right _ List.mem_cons_self) (va_up_self _ _ _) rfl v_61 (1) (by omega) (by omega) (by omega) dX4_where_63 (fun f_63 H locs e_63 hP hD hS => ?_)
                      rw [va_uu] at hP hD
                      have hP : va_P D vwCl ([(t0, .inr (4, [.ref lw, .ref rk, .ref hs, .ref em, .int mt, .int qn]))] ++ va_pl (L ++ [n_54]) (va_up f n_54 (.inl (cI, 2, .inl f_63)))) H := hP
                      have hD : va_D A ([(t0, .inr (4, [.ref lw, .ref rk, .ref hs, .ref em, .int mt, .int qn]))] ++ va_pl (L ++ [n_54]) (va_up f n_54 (.inl (cI, 2, .inl f_63)))) := hD
                      have hP9 := hP
                      have hD9 := hD
                      refine W.widen (k := 1) (n := 2) (by omega) (by omega) ?_
                      exact W.aret (v := .ref n_54) hx hb hr (Or.inr ⟨_, rfl⟩) (Or.inr ⟨_, rfl⟩) (fun t ht hW => ⟨⟨⟨(L ++ [n_54]), (va_up f n_54 (.inl (cI, 2, .inl f_63)))⟩, n_54, rfl, trivial, ⟨⟨pExt.new hq_54, (List.mem_append_right _ List.mem_cons_self), hq_54, ⟨f_63, va_up_self _ _ _, Or.inl ⟨a9, b9, by omega, by omega, mem_at (by omega) c_50, by rw [e_63, upd_n _ _ (by omega), e_59, upd_s, hia], by rw [e_63, upd_s, hib]⟩⟩⟩, ⟨by rw [ht]; exact hP9, hD9⟩⟩⟩, hS.F ht⟩) hS.2.2 dX4_where_64
              exact key33 _ 0 x_30 _ _ _ (Nat.lt_succ_self _) (v_30.trans (congrArg iI (by omega))) (by omega) (by simp) hP hD hS (lv_sub hl [0, 1, 2, 3, 4, 5, 6] rfl)
        exact key9 _ 0 x_7 _ _ _ (Nat.lt_succ_self _) (v_7.trans (congrArg iI (by omega))) (by omega) (fun b hb9 => absurd hb9 (Nat.not_lt_zero b)) hP hD hS (lv_sub hl [0, 1, 2, 3] rfl)
  exact key2 _ 0 x_0 _ _ _ (Nat.lt_succ_self _) (v_0.trans (congrArg iI (by omega))) (by omega) (fun h hh => absurd hh (Nat.not_lt_zero h)) hP hD hS (lv_sub hl [0, 1, 2] rfl)
set_option maxHeartbeats 4000000 in
set_option maxRecDepth 100000 in
theorem k_X4_all (l : Launch) (D : va_G) (cI cZ cJ cK : ClassId) (hz9 : Nat) (t0 : Nat) (h0 : Int32) (lw : Nat) (rk : Nat) (hs : Nat) (em : Nat) (mt : Int32) (qn : Int32) (L : List Nat) (f : Nat → va_E) (h : Nat) (n : Nat) (Hh : Nat → Nat) (mv : Nat → Int32) (rv : Nat → Int) (lo : Nat → Nat) (gk : Nat → Int32) (R : Nat → Nat → List Nat) (hSP : SimP cI cJ cK n Hh mv rv lo gk R lw rk hs em L f) (hhv : h0 = iI ↑h) (hh2 : h < 2) (htot : (catR (R h) 11).length ≤ 40) : Met l yX4_all (ws_ yX4_all cX4_all 11 (Option.some (.array .int))) ({ frames := 1, cells := 41, slots := 1600, locals := 23 }) (va_Pc [.ref t0, .int h0] (wPre D cI cZ cJ cK hz9 ([(t0, .inr (4, [.ref lw, .ref rk, .ref hs, .ref em, .int mt, .int qn]))] ++ va_pl L f))) (va_Qr (fun (u : List Nat × (Nat → va_E)) => True) (fun (u : List Nat × (Nat → va_E)) r t => ((pExt L f u.1 u.2) ∧ (r ∈ u.1) ∧ (r ∉ L) ∧ (rowE cI (catR (R h) 11) (u.2 r))) ∧ wPost D (va_A ([(t0, .inr (4, [.ref lw, .ref rk, .ref hs, .ref em, .int mt, .int qn]))] ++ va_pl L f) hz9) ([(t0, .inr (4, [.ref lw, .ref rk, .ref hs, .ref em, .int mt, .int qn]))] ++ va_pl u.1 u.2) t) (va_A ([(t0, .inr (4, [.ref lw, .ref rk, .ref hs, .ref em, .int mt, .int qn]))] ++ va_pl L f) hz9)) 41 1600 (va_A ([(t0, .inr (4, [.ref lw, .ref rk, .ref hs, .ref em, .int mt, .int qn]))] ++ va_pl L f) hz9) := by
  refine Met.ofW (cc := cX4_all) (maxL := 11) (ret := (Option.some (.array .int))) (by decide) rfl ?_
  intro p e s m args below meth c s₁ hBd hml hv
  obtain ⟨rfl, hsz, hP, hD, hK, hT, hZ⟩ := hv
  have hx := hBd.exec
  have hb := hBd.bytes
  have hr := hBd.returns
  have hts : ∀ w ∈ lw_G, w.before _ s = true := fun w h => atoms_spec (ws := (ws_ yX4_all cX4_all 11 (Option.some (.array .int)))) hBd.pre w (List.mem_cons_of_mem _ h)
  have hown : s.vm.findClass RX4 = some m.cls := findClass_of_methodNamed hBd.named
  have hlocks := hBd.notSynchronized
  subst hsz
  have hD := hD.self (sz := s.heap.size)
  have hZA := hZ.own hP
  generalize hAe : va_A ([(t0, .inr (4, [.ref lw, .ref rk, .ref hs, .ref em, .int mt, .int qn]))] ++ va_pl L f) s.heap.size = A at hD hZA ⊢
  have hA : ∀ q : Nat, s.heap.size ≤ q → A q := fun q h => by rw [← hAe]; exact Or.inr h
  have hZ := hZA
  have hS : va_S A s.heap s.heap [] := va_S.rf
  have hl := lv_entry ([.ref t0, .int h0]) (n := 11) (Nat.le_of_ble_eq_true rfl)
  rw [lg_entry_eq]
  generalize (lg_sl ([.ref t0, .int h0]) ++ List.replicate (11 - (lg_sl ([.ref t0, .int h0])).length) Slot.unset).toArray = ls at hl ⊢
  have hl : lv_has ls 11 [(0, .ref t0), (1, .int h0)] := hl
  have hP : va_P D vwCl ([(t0, .inr (4, [.ref lw, .ref rk, .ref hs, .ref em, .int mt, .int qn]))] ++ va_pl L f) s.heap := hP
  obtain ⟨K, ha, ea, rr, qS⟩ := id hSP
  obtain ⟨⟨lw1, lw2, gl, lw3, lw4⟩, ⟨rk1, rk2, gg, rk3, rk4⟩, ⟨hs1, hs2, gs, hs3, hs4⟩, ⟨em1, em2, ge, em3, em4⟩, q5, q6, q7⟩ := id qS
  obtain ⟨ha1, ha2, gh, ha3, ha4⟩ := q5 h hh2
  refine lz_iconst hx hb dX4_all_0 (fun x_0 v_0 => ?_)
  refine pl_new hx hb (hts _ qw53) 0 rfl hK hP hD hS hA v_0 (0) (by omega) (by omega) (Nat.le_of_ble_eq_true rfl) (Nat.le_of_ble_eq_true rfl) dX4_all_1 (fun n_1 H hq_1 hP hD hS => ?_)
  have hP : va_P D vwCl ([(t0, .inr (4, [.ref lw, .ref rk, .ref hs, .ref em, .int mt, .int qn]))] ++ va_pl (L ++ [n_1]) (va_up f n_1 (.inl (cI, 0, .inl (fun _ => 0))))) H := hP
  have hD : va_D A ([(t0, .inr (4, [.ref lw, .ref rk, .ref hs, .ref em, .int mt, .int qn]))] ++ va_pl (L ++ [n_1]) (va_up f n_1 (.inl (cI, 0, .inl (fun _ => 0))))) := hD
  have hn_hs_n_1 : hs ≠ n_1 := fun z => hq_1 (by rw [← z]; exact hs1)
  have hn__ha_h__n_1 : (ha h) ≠ n_1 := fun z => hq_1 (by rw [← z]; exact ha1)
  refine lv_astore_n (lv' := [(2, .ref n_1), (0, .ref t0), (1, .int h0)]) hx hb dX4_all_3 rfl hl (by decide) rfl (fun ls hl => ?_)
  refine lv_aload_n hx hb dX4_all_4 rfl (lv_at hl 1 rfl) ?_
  refine va_get (D := D) (ci := 4) (v := .ref hs) (C := RX4) (T := TX4) (N := 6) hx hb hts iX4 hown hK hP 0 rfl rfl 2 (by decide) (hts _ qw619) (fun _ h9 => h9) rfl dX4_all_5 ?_
  refine lv_iload_n hx hb dX4_all_8 rfl (lv_at hl 2 rfl) ?_
  refine rd_aald hx hb hK hP 3 (pl_mem (List.mem_append_left _ hs1) ((va_up_ne _ _ hn_hs_n_1).trans hs3)) rfl hhv (h) (by omega) (by omega) (by omega) (hs4 _ (by omega)) dX4_all_9 ?_
  refine lv_astore_n (lv' := [(3, .ref (ha h)), (2, .ref n_1), (0, .ref t0), (1, .int h0)]) hx hb dX4_all_10 rfl hl (by decide) rfl (fun ls hl => ?_)
  refine lv_aload_n hx hb dX4_all_11 rfl (lv_at hl 0 rfl) ?_
  refine rd_alen hx hb hK hP 2 (pl_mem (List.mem_append_left _ ha1) ((va_up_ne _ _ hn__ha_h__n_1).trans ha3)) rfl dX4_all_12 (fun x_12 v_12 => ?_)
  have v_12 : x_12 = iI (↑(11)) := v_12
  refine lv_istore (lv' := [(4, .int x_12), (3, .ref (ha h)), (2, .ref n_1), (0, .ref t0), (1, .int h0)]) hx hb dX4_all_13 hl (by decide) rfl (fun ls hl => ?_)
  refine lz_iconst hx hb dX4_all_15 (fun x_15 v_15 => ?_)
  refine lv_istore (lv' := [(5, .int x_15), (4, .int x_12), (3, .ref (ha h)), (2, .ref n_1), (0, .ref t0), (1, .int h0)]) hx hb dX4_all_16 hl (by decide) rfl (fun ls hl => ?_)
  have key18 : ∀ (fu : Nat) (b9 : Nat) (bb : Int32) (Li : List Nat) (fi : Nat → va_E) (qi : Nat) (H : Heap) (locs : List Loc) (ls : Array Slot), 12 - b9 < fu → (bb = iI (↑b9)) → (b9 ≤ 11) → (pExt L f Li fi) → (qi ∈ Li) → (qi ∉ L) → (rowE cI (catR (R h) b9) (fi qi)) → va_P D vwCl ([(t0, .inr (4, [.ref lw, .ref rk, .ref hs, .ref em, .int mt, .int qn]))] ++ va_pl Li fi) H → va_D A ([(t0, .inr (4, [.ref lw, .ref rk, .ref hs, .ref em, .int mt, .int qn]))] ++ va_pl Li fi) → va_S A s.heap H locs → lv_has ls 11 [(5, .int bb), (4, .int x_12), (3, .ref (ha h)), (2, .ref qi), (0, .ref t0), (1, .int h0)] → W p l e (headSpec (ws_ yX4_all cX4_all 11 (Option.some (.array .int))) ({ frames := 1, cells := 41, slots := 1600, locals := 23 })).room s m ([.ref t0, .int h0] : List Value).toArray below meth c H locs (1 + (catR (R h) b9).length) (40 * (catR (R h) b9).length) (MQ below (va_Qr (fun (u : List Nat × (Nat → va_E)) => True) (fun (u : List Nat × (Nat → va_E)) r t => ((pExt L f u.1 u.2) ∧ (r ∈ u.1) ∧ (r ∉ L) ∧ (rowE cI (catR (R h) 11) (u.2 r))) ∧ wPost D A ([(t0, .inr (4, [.ref lw, .ref rk, .ref hs, .ref em, .int mt, .int qn]))] ++ va_pl u.1 u.2) t) A) ([.ref t0, .int h0] : List Value).toArray s 41 1600 A) (F0 m 18 ls []) := by
    intro fu
    induction fu with
    | zero => intros; omega
    | succ fu ih18 =>
      intro b9 bb Li fi qi H locs ls hfu hib hlb hxt hq hqn hrw hP hD hS hl
      refine lv_iload hx hb dX4_all_18 (lv_at hl 0 rfl) ?_
      refine lv_iload hx hb dX4_all_20 (lv_at hl 1 rfl) ?_
      refine lz_icmp_ge (tgt := 76) hx hb hib v_12 ⟨by omega, by omega⟩ dX4_all_22 (by decide) (fun c_22 => ?_) (fun c_22 => ?_)
      · have hcm := catR_mono (R h) (show b9 ≤ 11 by omega)
        refine lv_aload_n hx hb dX4_all_76 rfl (lv_at hl 3 rfl) ?_
        have hP9 := hP
        have hD9 := hD
        refine W.widen (k := 41) (n := 1600) (by omega) (by omega) ?_
        exact W.aret (v := .ref qi) hx hb hr (Or.inr ⟨_, rfl⟩) (Or.inr ⟨_, rfl⟩) (fun t ht hW => ⟨⟨⟨Li, fi⟩, qi, rfl, trivial, ⟨⟨hxt, hq, hqn, by rw [show b9 = 11 by omega] at hrw; exact hrw⟩, ⟨by rw [ht]; exact hP9, hD9⟩⟩⟩, hS.F ht⟩) hS.2.2 dX4_all_77
      · obtain ⟨rb1, rb2, gr, rb4, rb5⟩ := q6 h b9 hh2 (by omega)
        have hcm := catR_mono (R h) (show b9 + 1 ≤ 11 by omega)
        have hcs := catR_s (R h) b9
        refine lv_aload_n hx hb dX4_all_25 rfl (lv_at hl 2 rfl) ?_
        refine lv_iload hx hb dX4_all_26 (lv_at hl 0 rfl) ?_
        refine rd_aald hx hb hK hP 2 (pl_mem (hxt _ ha1).1 ((hxt _ ha1).2.trans ha3)) rfl hib (b9) (by omega) (by omega) (by omega) (ha4 _ (by omega)) dX4_all_28 ?_
        refine lv_astore (lv' := [(6, .ref (rr h b9)), (5, .int bb), (4, .int x_12), (3, .ref (ha h)), (2, .ref qi), (0, .ref t0), (1, .int h0)]) hx hb dX4_all_29 hl (by decide) rfl (fun ls hl => ?_)
        refine lv_aload hx hb dX4_all_31 (lv_at hl 0 rfl) ?_
        refine lv_astore (lv' := [(7, .ref (rr h b9)), (6, .ref (rr h b9)), (5, .int bb), (4, .int x_12), (3, .ref (ha h)), (2, .ref qi), (0, .ref t0), (1, .int h0)]) hx hb dX4_all_33 hl (by decide) rfl (fun ls hl => ?_)
        refine lv_aload hx hb dX4_all_35 (lv_at hl 0 rfl) ?_
        refine rd_alen hx hb hK hP 0 (pl_mem (hxt _ rb1).1 ((hxt _ rb1).2.trans rb4)) rfl dX4_all_37 (fun x_37 v_37 => ?_)
        have v_37 : x_37 = iI (↑((R h b9).length)) := v_37
        refine lv_istore (lv' := [(8, .int x_37), (7, .ref (rr h b9)), (6, .ref (rr h b9)), (5, .int bb), (4, .int x_12), (3, .ref (ha h)), (2, .ref qi), (0, .ref t0), (1, .int h0)]) hx hb dX4_all_38 hl (by decide) rfl (fun ls hl => ?_)
        refine lz_iconst hx hb dX4_all_40 (fun x_40 v_40 => ?_)
        refine lv_istore (lv' := [(9, .int x_40), (8, .int x_37), (7, .ref (rr h b9)), (6, .ref (rr h b9)), (5, .int bb), (4, .int x_12), (3, .ref (ha h)), (2, .ref qi), (0, .ref t0), (1, .int h0)]) hx hb dX4_all_41 hl (by decide) rfl (fun ls hl => ?_)
        have key43 : ∀ (fu : Nat) (k9 : Nat) (kk : Int32) (Lj : List Nat) (fj : Nat → va_E) (qj : Nat) (H : Heap) (locs : List Loc) (ls : Array Slot), (R h b9).length + 1 - k9 < fu → (kk = iI (↑k9)) → (k9 ≤ (R h b9).length) → (pExt L f Lj fj) → (qj ∈ Lj) → (qj ∉ L) → (rowE cI ((catR (R h) b9) ++ (R h b9).take k9) (fj qj)) → va_P D vwCl ([(t0, .inr (4, [.ref lw, .ref rk, .ref hs, .ref em, .int mt, .int qn]))] ++ va_pl Lj fj) H → va_D A ([(t0, .inr (4, [.ref lw, .ref rk, .ref hs, .ref em, .int mt, .int qn]))] ++ va_pl Lj fj) → va_S A s.heap H locs → lv_has ls 11 [(9, .int kk), (8, .int x_37), (7, .ref (rr h b9)), (6, .ref (rr h b9)), (5, .int bb), (4, .int x_12), (3, .ref (ha h)), (2, .ref qj), (0, .ref t0), (1, .int h0)] → W p l e (headSpec (ws_ yX4_all cX4_all 11 (Option.some (.array .int))) ({ frames := 1, cells := 41, slots := 1600, locals := 23 })).room s m ([.ref t0, .int h0] : List Value).toArray below meth c H locs (1 + ((catR (R h) b9).length + k9)) (40 * ((catR (R h) b9).length + k9)) (MQ below (va_Qr (fun (u : List Nat × (Nat → va_E)) => True) (fun (u : List Nat × (Nat → va_E)) r t => ((pExt L f u.1 u.2) ∧ (r ∈ u.1) ∧ (r ∉ L) ∧ (rowE cI (catR (R h) 11) (u.2 r))) ∧ wPost D A ([(t0, .inr (4, [.ref lw, .ref rk, .ref hs, .ref em, .int mt, .int qn]))] ++ va_pl u.1 u.2) t) A) ([.ref t0, .int h0] : List Value).toArray s 41 1600 A) (F0 m 43 ls []) := by
          intro fu
          induction fu with
          | zero => intros; omega
          | succ fu ih43 =>
            intro k9 kk Lj fj qj H locs ls hfu hik hlk hxj hqj hqnj hrwj hP hD hS hl
            refine lv_iload hx hb dX4_all_43 (lv_at hl 0 rfl) ?_
            refine lv_iload hx hb dX4_all_45 (lv_at hl 1 rfl) ?_
            refine lz_icmp_ge (tgt := 70) hx hb hik v_37 ⟨by omega, by omega⟩ dX4_all_47 (by decide) (fun c_47 => ?_) (fun c_47 => ?_)
            · refine lz_iinc (lv2 := fun z => [(5, .int z), (9, .int kk), (8, .int x_37), (7, .ref (rr h b9)), (6, .ref (rr h b9)), (4, .int x_12), (3, .ref (ha h)), (2, .ref qj), (0, .ref t0), (1, .int h0)]) hx hb dX4_all_70 hl (k := 4) rfl hib (by decide) (fun _ => rfl) (fun x_70 ls v_70 hl => ?_)
              refine lv_goto (tgt := 18) hx hb dX4_all_73 (by decide) ?_
              refine W.widen (k := (1 + (catR (R h) (b9 + 1)).length)) (n := (40 * (catR (R h) (b9 + 1)).length)) (by omega) (by omega) ?_
              exact ih18 (b9 + 1) x_70 Lj fj qj _ _ _ (by omega) (v_70.trans (congrArg iI (by omega))) (by omega) (hxj) (hqj) (hqnj) (by rw [take_all (show (R h b9).length ≤ k9 by omega)] at hrwj; exact hrwj) hP hD hS (lv_sub hl [0, 5, 6, 7, 8, 9] rfl)
            · refine lv_aload hx hb dX4_all_50 (lv_at hl 2 rfl) ?_
              refine lv_iload hx hb dX4_all_52 (lv_at hl 0 rfl) ?_
              refine rd_iald hx hb hK hP 0 (pl_mem (hxj _ rb1).1 ((hxj _ rb1).2.trans rb4)) rfl hik (k9) (by omega) (by omega) (by omega) dX4_all_54 (fun x_54 e_54 => ?_)
              have v_54 : x_54 = iI (↑((R h b9).getD k9 0)) := e_54.trans (rb5 _ (by omega))
              refine lv_istore (lv' := [(10, .int x_54), (9, .int kk), (8, .int x_37), (7, .ref (rr h b9)), (6, .ref (rr h b9)), (5, .int bb), (4, .int x_12), (3, .ref (ha h)), (2, .ref qj), (0, .ref t0), (1, .int h0)]) hx hb dX4_all_55 hl (by decide) rfl (fun ls hl => ?_)
              refine lv_aload_n hx hb dX4_all_57 rfl (lv_at hl 8 rfl) ?_
              refine lv_iload hx hb dX4_all_58 (lv_at hl 0 rfl) ?_
              refine cp_r (wr := [(t0, .inr (4, [.ref lw, .ref rk, .ref hs, .ref em, .int mt, .int qn]))]) (ws2 := fun u9 => ([(t0, .inr (4, [.ref lw, .ref rk, .ref hs, .ref em, .int mt, .int qn]))] ++ va_pl u9.1 u9.2)) (va_runS (As := [.ref qj, .int x_54]) (rest := []) ⟨hx, hb, hml, hown, hts⟩ (k_X4_with l D cI cZ cJ cK _ qj x_54 Lj fj ((catR (R h) b9) ++ (R h b9).take k9) ((R h b9).getD k9 0) (hqj) (hrwj) (v_54.trans (congrArg iI (by omega))) (by rw [List.length_append, List.length_take]; omega)) (va_cwS 2 hts (gS qw476 qw477 qw14 qw478) rfl rfl rfl (by decide +kernel) ⟨Nat.le_of_ble_eq_true rfl, Nat.le_of_ble_eq_true rfl⟩) (psP (wr := [(t0, .inr (4, [.ref lw, .ref rk, .ref hs, .ref em, .int mt, .int qn]))]) hP hD hK hT hZ hS (List.Perm.refl _)) rfl rfl hl.1 rfl (lv_room (Nat.le_of_ble_eq_true rfl)) dX4_all_60 ⟨(by show ((1 + ((catR (R h) b9).length + k9)) + 1) ≤ 41; omega), (by show ((40 * ((catR (R h) b9).length + k9)) + 40) ≤ 1600; omega)⟩) hS hP hD hA (List.Perm.refl _) (fun _ => List.Perm.refl _) (fun x_60 u_60 H locs hw_60 hP hD hS => ?_)
              obtain ⟨L2_60, f2_60⟩ := u_60
              have hP : va_P D vwCl ([(t0, .inr (4, [.ref lw, .ref rk, .ref hs, .ref em, .int mt, .int qn]))] ++ va_pl L2_60 f2_60) H := hP
              have hD : va_D A ([(t0, .inr (4, [.ref lw, .ref rk, .ref hs, .ref em, .int mt, .int qn]))] ++ va_pl L2_60 f2_60) := hD
              have hw_60 : (pExt Lj fj L2_60 f2_60) ∧ (x_60 ∈ L2_60) ∧ (x_60 ∉ Lj) ∧ (rowE cI (((catR (R h) b9) ++ (R h b9).take k9) ++ [((R h b9).getD k9 0)]) (f2_60 x_60)) := hw_60
              obtain ⟨e_60, i_60, o_60, v_60⟩ := hw_60
              refine lv_astore_n (lv' := [(2, .ref x_60), (10, .int x_54), (9, .int kk), (8, .int x_37), (7, .ref (rr h b9)), (6, .ref (rr h b9)), (5, .int bb), (4, .int x_12), (3, .ref (ha h)), (0, .ref t0), (1, .int h0)]) hx hb dX4_all_63 rfl hl (by decide) rfl (fun ls hl => ?_)
              refine lz_iinc (lv2 := fun z => [(9, .int z), (2, .ref x_60), (10, .int x_54), (8, .int x_37), (7, .ref (rr h b9)), (6, .ref (rr h b9)), (5, .int bb), (4, .int x_12), (3, .ref (ha h)), (0, .ref t0), (1, .int h0)]) hx hb dX4_all_64 hl (k := 2) rfl hik (by decide) (fun _ => rfl) (fun x_64 ls v_64 hl => ?_)
              refine lv_goto (tgt := 43) hx hb dX4_all_67 (by decide) ?_
              refine W.widen (k := (1 + ((catR (R h) b9).length + (k9 + 1)))) (n := (40 * ((catR (R h) b9).length + (k9 + 1)))) (by omega) (by omega) ?_
              exact ih43 (k9 + 1) x_64 L2_60 f2_60 x_60 _ _ _ (by omega) (v_64.trans (congrArg iI (by omega))) (by omega) (hxj.tr e_60) (i_60) (fun z => o_60 (hxj _ z).1) (by rw [take_s1 (show k9 < (R h b9).length by omega), ← List.append_assoc]; exact v_60) hP hD hS (lv_sub hl [0, 3, 4, 5, 6, 7, 8, 1, 9, 10] rfl)
        refine W.widen (k := (1 + ((catR (R h) b9).length + 0))) (n := (40 * ((catR (R h) b9).length + 0))) (by omega) (by omega) ?_
        exact key43 _ 0 x_40 Li fi qi _ _ _ (Nat.lt_succ_self _) (v_40.trans (congrArg iI (by omega))) (by omega) (hxt) (hq) (hqn) (by rw [List.take_zero, List.append_nil]; exact hrw) hP hD hS (lv_sub hl [0, 1, 2, 3, 4, 5, 6, 7, 8, 9] rfl)
  refine W.widen (k := (1 + (catR (R h) 0).length)) (n := (40 * (catR (R h) 0).length)) (by omega) (by omega) ?_
  exact key18 _ 0 x_15 (L ++ [n_1]) (va_up f n_1 (.inl (cI, 0, .inl (fun _ => 0)))) n_1 _ _ _ (Nat.lt_succ_self _) (v_15.trans (congrArg iI (by omega))) (by omega) (pExt.new hq_1) ((List.mem_append_right _ List.mem_cons_self)) (hq_1) (⟨fun _ => 0, va_up_self _ _ _, fun j hj => absurd hj (Nat.not_lt_zero j)⟩) hP hD hS (lv_sub hl [0, 1, 2, 3, 4, 5] rfl)
set_option maxHeartbeats 4000000 in
set_option maxRecDepth 100000 in
theorem k_X4_least (l : Launch) (D : va_G) (cI cZ cJ cK : ClassId) (hz9 : Nat) (t0 : Nat) (h0 : Int32) (lw : Nat) (rk : Nat) (hs : Nat) (em : Nat) (mt : Int32) (qn : Int32) (L : List Nat) (f : Nat → va_E) (h : Nat) (n : Nat) (Hh : Nat → Nat) (mv : Nat → Int32) (rv : Nat → Int) (lo : Nat → Nat) (gk : Nat → Int32) (R : Nat → Nat → List Nat) (hSP : SimP cI cJ cK n Hh mv rv lo gk R lw rk hs em L f) (hhv : h0 = iI ↑h) (hh2 : h < 2) (htot : (catR (R h) 11).length ≤ 40) (hRn : ∀ x ∈ catR (R h) 11, x < n) (hn4 : n ≤ 40) (hHn : ∀ e, e < n → Hh e < 1024) : Met l yX4_least (ws_ yX4_least cX4_least 7 (Option.some .int)) ({ frames := 2, cells := 41, slots := 1600, locals := 53 }) (va_Pc [.ref t0, .int h0] (wPre D cI cZ cJ cK hz9 ([(t0, .inr (4, [.ref lw, .ref rk, .ref hs, .ref em, .int mt, .int qn]))] ++ va_pl L f))) (va_Qi (fun r (u : List Nat × (Nat → va_E)) => (r = iI (↑(minL Hh (catR (R h) 11)))) ∧ (pExt L f u.1 u.2)) (fun (u : List Nat × (Nat → va_E)) t => wPost D (va_A ([(t0, .inr (4, [.ref lw, .ref rk, .ref hs, .ref em, .int mt, .int qn]))] ++ va_pl L f) hz9) ([(t0, .inr (4, [.ref lw, .ref rk, .ref hs, .ref em, .int mt, .int qn]))] ++ va_pl u.1 u.2) t) (va_A ([(t0, .inr (4, [.ref lw, .ref rk, .ref hs, .ref em, .int mt, .int qn]))] ++ va_pl L f) hz9)) 41 1600 (va_A ([(t0, .inr (4, [.ref lw, .ref rk, .ref hs, .ref em, .int mt, .int qn]))] ++ va_pl L f) hz9) := by
  refine Met.ofW (cc := cX4_least) (maxL := 7) (ret := (Option.some .int)) (by decide) rfl ?_
  intro p e s m args below meth c s₁ hBd hml hv
  obtain ⟨rfl, hsz, hP, hD, hK, hT, hZ⟩ := hv
  have hx := hBd.exec
  have hb := hBd.bytes
  have hr := hBd.returns
  have hts : ∀ w ∈ lw_G, w.before _ s = true := fun w h => atoms_spec (ws := (ws_ yX4_least cX4_least 7 (Option.some .int))) hBd.pre w (List.mem_cons_of_mem _ h)
  have hown : s.vm.findClass RX4 = some m.cls := findClass_of_methodNamed hBd.named
  have hlocks := hBd.notSynchronized
  subst hsz
  have hD := hD.self (sz := s.heap.size)
  have hZA := hZ.own hP
  generalize hAe : va_A ([(t0, .inr (4, [.ref lw, .ref rk, .ref hs, .ref em, .int mt, .int qn]))] ++ va_pl L f) s.heap.size = A at hD hZA ⊢
  have hA : ∀ q : Nat, s.heap.size ≤ q → A q := fun q h => by rw [← hAe]; exact Or.inr h
  have hZ := hZA
  have hS : va_S A s.heap s.heap [] := va_S.rf
  have hl := lv_entry ([.ref t0, .int h0]) (n := 7) (Nat.le_of_ble_eq_true rfl)
  rw [lg_entry_eq]
  generalize (lg_sl ([.ref t0, .int h0]) ++ List.replicate (7 - (lg_sl ([.ref t0, .int h0])).length) Slot.unset).toArray = ls at hl ⊢
  have hl : lv_has ls 7 [(0, .ref t0), (1, .int h0)] := hl
  have hP : va_P D vwCl ([(t0, .inr (4, [.ref lw, .ref rk, .ref hs, .ref em, .int mt, .int qn]))] ++ va_pl L f) s.heap := hP
  obtain ⟨K, ha, ea, rr, qS⟩ := id hSP
  obtain ⟨⟨lw1, lw2, gl, lw3, lw4⟩, ⟨rk1, rk2, gg, rk3, rk4⟩, ⟨hs1, hs2, gs, hs3, hs4⟩, ⟨em1, em2, ge, em3, em4⟩, q5, q6, q7⟩ := id qS
  refine lz_sipush hx hb (by decide) dX4_least_0 (fun x_0 v_0 => ?_)
  refine lv_istore_n (lv' := [(2, .int x_0), (0, .ref t0), (1, .int h0)]) hx hb dX4_least_3 rfl hl (by decide) rfl (fun ls hl => ?_)
  refine lv_aload_n hx hb dX4_least_4 rfl (lv_at hl 1 rfl) ?_
  refine lv_iload_n hx hb dX4_least_5 rfl (lv_at hl 2 rfl) ?_
  refine cp_r (wr := []) (ws2 := fun u9 => ([(t0, .inr (4, [.ref lw, .ref rk, .ref hs, .ref em, .int mt, .int qn]))] ++ va_pl u9.1 u9.2)) (va_runV (As := [.int h0]) (rest := []) ⟨hx, hb, hml, hown, hts⟩ (k_X4_all l D cI cZ cJ cK _ t0 h0 lw rk hs em mt qn L f h n Hh mv rv lo gk R (hSP) (hhv.trans (congrArg iI (by omega))) (hh2) (htot)) (cwV 1 hts (gV qw488 qw489 qw490 qw14 qw491) rfl rfl rfl (by decide +kernel) ⟨Nat.le_of_ble_eq_true rfl, Nat.le_of_ble_eq_true rfl⟩) (pvP (ci := 4) (r := (RX4, TX4, 6)) (q0 := 0) (wr := []) hP hD hK hT hZ hS (List.Perm.refl _) rfl rfl) rfl rfl hl.1 rfl (lv_room (Nat.le_of_ble_eq_true rfl)) dX4_least_6 ⟨Nat.le_of_ble_eq_true rfl, Nat.le_of_ble_eq_true rfl⟩) hS hP hD hA (List.Perm.refl _) (fun _ => List.Perm.refl _) (fun x_6 u_6 H locs hw_6 hP hD hS => ?_)
  obtain ⟨L2_6, f2_6⟩ := u_6
  have hP : va_P D vwCl ([(t0, .inr (4, [.ref lw, .ref rk, .ref hs, .ref em, .int mt, .int qn]))] ++ va_pl L2_6 f2_6) H := hP
  have hD : va_D A ([(t0, .inr (4, [.ref lw, .ref rk, .ref hs, .ref em, .int mt, .int qn]))] ++ va_pl L2_6 f2_6) := hD
  have hw_6 : (pExt L f L2_6 f2_6) ∧ (x_6 ∈ L2_6) ∧ (x_6 ∉ L) ∧ (rowE cI (catR (R h) 11) (f2_6 x_6)) := hw_6
  obtain ⟨e_6, i_6, o_6, v_6⟩ := hw_6
  obtain ⟨gv, hfv, hgv⟩ := id v_6
  refine lv_astore_n (lv' := [(3, .ref x_6), (2, .int x_0), (0, .ref t0), (1, .int h0)]) hx hb dX4_least_9 rfl hl (by decide) rfl (fun ls hl => ?_)
  refine lv_aload_n hx hb dX4_least_10 rfl (lv_at hl 0 rfl) ?_
  refine rd_alen hx hb hK hP 0 (pl_mem i_6 hfv) rfl dX4_least_11 (fun x_11 v_11 => ?_)
  have v_11 : x_11 = iI (↑((catR (R h) 11).length)) := v_11
  refine lv_istore (lv' := [(4, .int x_11), (3, .ref x_6), (2, .int x_0), (0, .ref t0), (1, .int h0)]) hx hb dX4_least_12 hl (by decide) rfl (fun ls hl => ?_)
  refine lz_iconst hx hb dX4_least_14 (fun x_14 v_14 => ?_)
  refine lv_istore (lv' := [(5, .int x_14), (4, .int x_11), (3, .ref x_6), (2, .int x_0), (0, .ref t0), (1, .int h0)]) hx hb dX4_least_15 hl (by decide) rfl (fun ls hl => ?_)
  have key17 : ∀ (fu : Nat) (i : Nat) (ii : Int32) (mm : Int32) (H : Heap) (locs : List Loc) (ls : Array Slot), (catR (R h) 11).length + 1 - i < fu → (ii = iI (↑i)) → (i ≤ (catR (R h) 11).length) → (mm = iI (↑(minL Hh ((catR (R h) 11).take i)))) → va_P D vwCl ([(t0, .inr (4, [.ref lw, .ref rk, .ref hs, .ref em, .int mt, .int qn]))] ++ va_pl L2_6 f2_6) H → va_D A ([(t0, .inr (4, [.ref lw, .ref rk, .ref hs, .ref em, .int mt, .int qn]))] ++ va_pl L2_6 f2_6) → va_S A s.heap H locs → lv_has ls 7 [(5, .int ii), (4, .int x_11), (3, .ref x_6), (2, .int mm), (0, .ref t0), (1, .int h0)] → W p l e (headSpec (ws_ yX4_least cX4_least 7 (Option.some .int)) ({ frames := 2, cells := 41, slots := 1600, locals := 53 })).room s m ([.ref t0, .int h0] : List Value).toArray below meth c H locs 41 1600 (MQ below (va_Qi (fun r (u : List Nat × (Nat → va_E)) => (r = iI (↑(minL Hh (catR (R h) 11)))) ∧ (pExt L f u.1 u.2)) (fun (u : List Nat × (Nat → va_E)) t => wPost D A ([(t0, .inr (4, [.ref lw, .ref rk, .ref hs, .ref em, .int mt, .int qn]))] ++ va_pl u.1 u.2) t) A) ([.ref t0, .int h0] : List Value).toArray s 41 1600 A) (F0 m 17 ls []) := by
    intro fu
    induction fu with
    | zero => intros; omega
    | succ fu ih17 =>
      intro i ii mm H locs ls hfu hi hle hmm hP hD hS hl
      refine lv_iload hx hb dX4_least_17 (lv_at hl 0 rfl) ?_
      refine lv_iload hx hb dX4_least_19 (lv_at hl 1 rfl) ?_
      refine lz_icmp_ge (tgt := 50) hx hb hi v_11 ⟨by omega, by omega⟩ dX4_least_21 (by decide) (fun c_21 => ?_) (fun c_21 => ?_)
      · refine lv_iload_n hx hb dX4_least_50 rfl (lv_at hl 3 rfl) ?_
        have hP9 := hP
        have hD9 := hD
        refine W.widen (k := 41) (n := 1600) (by omega) (by omega) ?_
        exact W.iret (v := mm) hx hb hr (fun t ht hW => ⟨⟨mm, ⟨L2_6, f2_6⟩, rfl, ⟨hmm.trans (by rw [take_all (show (catR (R h) 11).length ≤ i by omega)]), e_6⟩, ⟨by rw [ht]; exact hP9, hD9⟩⟩, hS.F ht⟩) hS.2.2 dX4_least_51
      · have hxn := hRn _ (getD_in (show i < (catR (R h) 11).length by omega))
        have hxH := hHn _ hxn
        obtain ⟨ea1, ea2, gx, ea3, ea4, ea5, ea6⟩ := q7 _ hxn
        refine lv_aload_n hx hb dX4_least_24 rfl (lv_at hl 2 rfl) ?_
        refine lv_iload hx hb dX4_least_25 (lv_at hl 0 rfl) ?_
        refine rd_iald hx hb hK hP 0 (pl_mem i_6 hfv) rfl hi (i) (by omega) (by omega) (by omega) dX4_least_27 (fun x_27 e_27 => ?_)
        have v_27 : x_27 = iI (↑((catR (R h) 11).getD i 0)) := e_27.trans (hgv _ (by omega))
        refine lv_istore (lv' := [(6, .int x_27), (5, .int ii), (4, .int x_11), (3, .ref x_6), (2, .int mm), (0, .ref t0), (1, .int h0)]) hx hb dX4_least_28 hl (by decide) rfl (fun ls hl => ?_)
        refine lv_iload_n hx hb dX4_least_30 rfl (lv_at hl 4 rfl) ?_
        refine lv_aload_n hx hb dX4_least_31 rfl (lv_at hl 5 rfl) ?_
        refine va_get (D := D) (ci := 4) (v := .ref em) (C := RX4) (T := TX4) (N := 6) hx hb hts iX4 hown hK hP 0 rfl rfl 3 (by decide) (hts _ qw620) (fun _ h9 => h9) rfl dX4_least_32 ?_
        refine lv_iload hx hb dX4_least_35 (lv_at hl 0 rfl) ?_
        refine rd_aald hx hb hK hP 2 (pl_mem (e_6 _ em1).1 ((e_6 _ em1).2.trans em3)) rfl v_27 (((catR (R h) 11).getD i 0)) (by omega) (by omega) (by omega) (em4 _ (by omega)) dX4_least_37 ?_
        refine lz_iconst hx hb dX4_least_38 (fun x_38 v_38 => ?_)
        refine rd_iald hx hb hK hP 0 (pl_mem (e_6 _ ea1).1 ((e_6 _ ea1).2.trans ea3)) rfl v_38 (0) (by omega) (by omega) (by omega) dX4_least_39 (fun x_39 e_39 => ?_)
        have v_39 : x_39 = iI (↑(Hh ((catR (R h) 11).getD i 0))) := e_39.trans (ea4)
        refine lz_min hx hb (by rw [hml]; exact hl.1.symm) hown (hts _ qw463) (hts _ qw244) (hts _ qw20) (hts _ qw245) (Nat.le_of_ble_eq_true rfl) (Nat.le_of_ble_eq_true rfl) (Nat.le_of_ble_eq_true rfl) (Nat.le_of_ble_eq_true rfl) hmm v_39 ⟨by have := minL_top Hh ((catR (R h) 11).take i); omega, by omega⟩ dX4_least_40 (fun x_40 v_40 => ?_)
        refine lv_istore_n (lv' := [(2, .int x_40), (6, .int x_27), (5, .int ii), (4, .int x_11), (3, .ref x_6), (0, .ref t0), (1, .int h0)]) hx hb dX4_least_43 rfl hl (by decide) rfl (fun ls hl => ?_)
        refine lz_iinc (lv2 := fun z => [(5, .int z), (2, .int x_40), (6, .int x_27), (4, .int x_11), (3, .ref x_6), (0, .ref t0), (1, .int h0)]) hx hb dX4_least_44 hl (k := 2) rfl hi (by decide) (fun _ => rfl) (fun x_44 ls v_44 hl => ?_)
        refine lv_goto (tgt := 17) hx hb dX4_least_47 (by decide) ?_
        exact ih17 (i + 1) x_44 x_40 _ _ _ (by omega) (v_44.trans (congrArg iI (by omega))) (by omega) (v_40.trans (congrArg iI (by rw [minL_take Hh (catR (R h) 11) (show i < (catR (R h) 11).length by omega)]; omega))) hP hD hS (lv_sub hl [0, 3, 4, 1, 5, 6] rfl)
  exact key17 _ 0 x_14 x_0 _ _ _ (Nat.lt_succ_self _) (v_14.trans (congrArg iI (by omega))) (by omega) (v_0.trans (by rw [List.take_zero]; rfl)) hP hD hS (lv_sub hl [0, 1, 2, 3, 4, 5] rfl)
set_option maxHeartbeats 4000000 in
set_option maxRecDepth 100000 in
theorem k_X4_takeOut (l : Launch) (D : va_G) (cI cZ cJ cK : ClassId) (hz9 : Nat) (t0 : Nat) (x0 : Int32) (lw : Nat) (rk : Nat) (hs : Nat) (em : Nat) (mt : Int32) (qn : Int32) (L : List Nat) (f : Nat → va_E) (h b : Nat) (eb : Nat) (n : Nat) (Hh : Nat → Nat) (mv : Nat → Int32) (rv : Nat → Int) (lo : Nat → Nat) (gk : Nat → Int32) (R : Nat → Nat → List Nat) (hSP : SimP cI cJ cK n Hh mv rv lo gk R lw rk hs em L f) (hxv : x0 = iI ↑eb) (hxb : eb < 1000) (hRb : ∀ h b, h < 2 → b < 11 → (∀ y ∈ R h b, y < 1000) ∧ (R h b).length ≤ 40) (hh2 : h < 2) (hb11 : b < 11) (heb : eb ∈ R h b) (huq : ∀ h2 b2, h2 < 2 → b2 < 11 → eb ∈ R h2 b2 → h2 = h ∧ b2 = b) : Met l yX4_takeOut (ws_ yX4_takeOut cX4_takeOut 3 (Option.none : Option Jvm.ClassFile.FieldType)) ({ frames := 2, cells := 42, slots := 1602, locals := 49 }) (va_Pc [.ref t0, .int x0] (wPre D cI cZ cJ cK hz9 ([(t0, .inr (4, [.ref lw, .ref rk, .ref hs, .ref em, .int mt, .int qn]))] ++ va_pl L f))) (va_Qv (fun (u : List Nat × (Nat → va_E)) => (SimP cI cJ cK n Hh mv rv lo gk (va_up R h (va_up (R h) b ((R h b).filter (fun y => decide (y ≠ eb))))) lw rk hs em u.1 u.2)) (fun (u : List Nat × (Nat → va_E)) t => wPost D (va_A ([(t0, .inr (4, [.ref lw, .ref rk, .ref hs, .ref em, .int mt, .int qn]))] ++ va_pl L f) hz9) ([(t0, .inr (4, [.ref lw, .ref rk, .ref hs, .ref em, .int mt, .int qn]))] ++ va_pl u.1 u.2) t) (va_A ([(t0, .inr (4, [.ref lw, .ref rk, .ref hs, .ref em, .int mt, .int qn]))] ++ va_pl L f) hz9)) 42 1602 (va_A ([(t0, .inr (4, [.ref lw, .ref rk, .ref hs, .ref em, .int mt, .int qn]))] ++ va_pl L f) hz9) := by
  refine Met.ofW (cc := cX4_takeOut) (maxL := 3) (ret := (Option.none : Option Jvm.ClassFile.FieldType)) (by decide) rfl ?_
  intro p e s m args below meth c s₁ hBd hml hv
  obtain ⟨rfl, hsz, hP, hD, hK, hT, hZ⟩ := hv
  have hx := hBd.exec
  have hb := hBd.bytes
  have hr := hBd.returns
  have hts : ∀ w ∈ lw_G, w.before _ s = true := fun w h => atoms_spec (ws := (ws_ yX4_takeOut cX4_takeOut 3 (Option.none : Option Jvm.ClassFile.FieldType))) hBd.pre w (List.mem_cons_of_mem _ h)
  have hown : s.vm.findClass RX4 = some m.cls := findClass_of_methodNamed hBd.named
  have hlocks := hBd.notSynchronized
  subst hsz
  have hD := hD.self (sz := s.heap.size)
  have hZA := hZ.own hP
  generalize hAe : va_A ([(t0, .inr (4, [.ref lw, .ref rk, .ref hs, .ref em, .int mt, .int qn]))] ++ va_pl L f) s.heap.size = A at hD hZA ⊢
  have hA : ∀ q : Nat, s.heap.size ≤ q → A q := fun q h => by rw [← hAe]; exact Or.inr h
  have hZ := hZA
  have hS : va_S A s.heap s.heap [] := va_S.rf
  have hl := lv_entry ([.ref t0, .int x0]) (n := 3) (Nat.le_of_ble_eq_true rfl)
  rw [lg_entry_eq]
  generalize (lg_sl ([.ref t0, .int x0]) ++ List.replicate (3 - (lg_sl ([.ref t0, .int x0])).length) Slot.unset).toArray = ls at hl ⊢
  have hl : lv_has ls 3 [(0, .ref t0), (1, .int x0)] := hl
  have hP : va_P D vwCl ([(t0, .inr (4, [.ref lw, .ref rk, .ref hs, .ref em, .int mt, .int qn]))] ++ va_pl L f) s.heap := hP
  obtain ⟨K, ha, ea, rr, qS⟩ := id hSP
  obtain ⟨⟨lw1, lw2, gl, lw3, lw4⟩, ⟨rk1, rk2, gg, rk3, rk4⟩, ⟨hs1, hs2, gs, hs3, hs4⟩, ⟨em1, em2, ge, em3, em4⟩, q5, q6, q7⟩ := id qS
  obtain ⟨ha1, ha2, gh, ha3, ha4⟩ := q5 h hh2
  obtain ⟨rb1, rb2, rb3⟩ := q6 h b hh2 hb11
  refine lv_aload_n hx hb dX4_takeOut_0 rfl (lv_at hl 0 rfl) ?_
  refine lv_iload_n hx hb dX4_takeOut_1 rfl (lv_at hl 1 rfl) ?_
  refine cp_r (wr := []) (ws2 := fun u9 => ([(t0, .inr (4, [.ref lw, .ref rk, .ref hs, .ref em, .int mt, .int qn]))] ++ va_pl u9.1 u9.2)) (va_runV (As := [.int x0]) (rest := []) ⟨hx, hb, hml, hown, hts⟩ (k_X4_where l D cI cZ cJ cK _ t0 x0 lw rk hs em mt qn L f eb n Hh mv rv lo gk R (hSP) (hxv.trans (congrArg iI (by omega))) (hxb) (hRb)) (cwV 1 hts (gV qw499 qw500 qw501 qw14 qw502) rfl rfl rfl (by decide +kernel) ⟨Nat.le_of_ble_eq_true rfl, Nat.le_of_ble_eq_true rfl⟩) (pvP (ci := 4) (r := (RX4, TX4, 6)) (q0 := 0) (wr := []) hP hD hK hT hZ hS (List.Perm.refl _) rfl rfl) rfl rfl hl.1 rfl (lv_room (Nat.le_of_ble_eq_true rfl)) dX4_takeOut_2 ⟨Nat.le_of_ble_eq_true rfl, Nat.le_of_ble_eq_true rfl⟩) hS hP hD hA (List.Perm.refl _) (fun _ => List.Perm.refl _) (fun x_2 u_2 H locs hw_2 hP hD hS => ?_)
  obtain ⟨L2_2, f2_2⟩ := u_2
  have hP : va_P D vwCl ([(t0, .inr (4, [.ref lw, .ref rk, .ref hs, .ref em, .int mt, .int qn]))] ++ va_pl L2_2 f2_2) H := hP
  have hD : va_D A ([(t0, .inr (4, [.ref lw, .ref rk, .ref hs, .ref em, .int mt, .int qn]))] ++ va_pl L2_2 f2_2) := hD
  have hw_2 : (pExt L f L2_2 f2_2) ∧ (x_2 ∈ L2_2) ∧ (x_2 ∉ L) ∧ (∃ g : Nat → Int32, f2_2 x_2 = .inl (cI, 2, .inl g) ∧ ((∃ h b, h < 2 ∧ b < 11 ∧ eb ∈ R h b ∧ g 0 = iI ↑h ∧ g 1 = iI ↑b) ∨ ((∀ h b, h < 2 → b < 11 → eb ∉ R h b) ∧ g 0 = iI (-1) ∧ g 1 = iI (-1)))) := hw_2
  obtain ⟨e_2, i_2, o_2, v_2⟩ := hw_2
  obtain ⟨gv, hfv, hgv⟩ := id v_2
  have hg01 : gv 0 = iI ↑h ∧ gv 1 = iI ↑b := by
    rcases hgv with ⟨h9, b9, z1, z2, z3, z4, z5⟩ | ⟨z1, -, -⟩
    · obtain ⟨y1, y2⟩ := huq h9 b9 z1 z2 z3
      rw [← y1, ← y2]
      exact ⟨z4, z5⟩
    · exact absurd heb (z1 h b hh2 hb11)
  refine lv_astore_n (lv' := [(2, .ref x_2), (0, .ref t0), (1, .int x0)]) hx hb dX4_takeOut_5 rfl hl (by decide) rfl (fun ls hl => ?_)
  refine lv_aload_n hx hb dX4_takeOut_6 rfl (lv_at hl 1 rfl) ?_
  refine va_get (D := D) (ci := 4) (v := .ref hs) (C := RX4) (T := TX4) (N := 6) hx hb hts iX4 hown hK hP 0 rfl rfl 2 (by decide) (hts _ qw619) (fun _ h9 => h9) rfl dX4_takeOut_7 ?_
  refine lv_aload_n hx hb dX4_takeOut_10 rfl (lv_at hl 0 rfl) ?_
  refine lz_iconst hx hb dX4_takeOut_11 (fun x_11 v_11 => ?_)
  refine rd_iald hx hb hK hP 0 (pl_mem i_2 hfv) rfl v_11 (0) (by omega) (by omega) (by omega) dX4_takeOut_12 (fun x_12 e_12 => ?_)
  have v_12 : x_12 = iI (↑h) := e_12.trans (hg01.1)
  refine rd_aald hx hb hK hP 3 (pl_mem (e_2 _ hs1).1 ((e_2 _ hs1).2.trans hs3)) rfl v_12 (h) (by omega) (by omega) (by omega) (hs4 _ (by omega)) dX4_takeOut_13 ?_
  refine lv_aload_n hx hb dX4_takeOut_14 rfl (lv_at hl 0 rfl) ?_
  refine lz_iconst hx hb dX4_takeOut_15 (fun x_15 v_15 => ?_)
  refine rd_iald hx hb hK hP 0 (pl_mem i_2 hfv) rfl v_15 (1) (by omega) (by omega) (by omega) dX4_takeOut_16 (fun x_16 e_16 => ?_)
  have v_16 : x_16 = iI (↑b) := e_16.trans (hg01.2)
  refine lv_aload_n hx hb dX4_takeOut_17 rfl (lv_at hl 1 rfl) ?_
  refine va_get (D := D) (ci := 4) (v := .ref hs) (C := RX4) (T := TX4) (N := 6) hx hb hts iX4 hown hK hP 0 rfl rfl 2 (by decide) (hts _ qw619) (fun _ h9 => h9) rfl dX4_takeOut_18 ?_
  refine lv_aload_n hx hb dX4_takeOut_21 rfl (lv_at hl 0 rfl) ?_
  refine lz_iconst hx hb dX4_takeOut_22 (fun x_22 v_22 => ?_)
  refine rd_iald hx hb hK hP 0 (pl_mem i_2 hfv) rfl v_22 (0) (by omega) (by omega) (by omega) dX4_takeOut_23 (fun x_23 e_23 => ?_)
  have v_23 : x_23 = iI (↑h) := e_23.trans (hg01.1)
  refine rd_aald hx hb hK hP 3 (pl_mem (e_2 _ hs1).1 ((e_2 _ hs1).2.trans hs3)) rfl v_23 (h) (by omega) (by omega) (by omega) (hs4 _ (by omega)) dX4_takeOut_24 ?_
  refine lv_aload_n hx hb dX4_takeOut_25 rfl (lv_at hl 0 rfl) ?_
  refine lz_iconst hx hb dX4_takeOut_26 (fun x_26 v_26 => ?_)
  refine rd_iald hx hb hK hP 0 (pl_mem i_2 hfv) rfl v_26 (1) (by omega) (by omega) (by omega) dX4_takeOut_27 (fun x_27 e_27 => ?_)
  have v_27 : x_27 = iI (↑b) := e_27.trans (hg01.2)
  refine rd_aald hx hb hK hP 2 (pl_mem (e_2 _ ha1).1 ((e_2 _ ha1).2.trans ha3)) rfl v_27 (b) (by omega) (by omega) (by omega) (ha4 _ (by omega)) dX4_takeOut_28 ?_
  refine lv_iload_n hx hb dX4_takeOut_29 rfl (lv_at hl 2 rfl) ?_
  refine cp_r (wr := [(t0, .inr (4, [.ref lw, .ref rk, .ref hs, .ref em, .int mt, .int qn]))]) (ws2 := fun u9 => ([(t0, .inr (4, [.ref lw, .ref rk, .ref hs, .ref em, .int mt, .int qn]))] ++ va_pl u9.1 u9.2)) (va_runS (As := [.ref (rr h b), .int x0]) (rest := [.int x_16, .ref (ha h)]) ⟨hx, hb, hml, hown, hts⟩ (k_X4_without l D cI cZ cJ cK _ (rr h b) x0 L2_2 f2_2 (R h b) eb ((e_2 _ rb1).1) (by rw [(e_2 _ rb1).2]; exact rb3) (hxv.trans (congrArg iI (by omega))) (hxb) ((hRb h b hh2 hb11).1) ((hRb h b hh2 hb11).2)) (va_cwS 2 hts (gS qw479 qw480 qw14 qw481) rfl rfl rfl (by decide +kernel) ⟨Nat.le_of_ble_eq_true rfl, Nat.le_of_ble_eq_true rfl⟩) (psP (wr := [(t0, .inr (4, [.ref lw, .ref rk, .ref hs, .ref em, .int mt, .int qn]))]) hP hD hK hT hZ hS (List.Perm.refl _)) rfl rfl hl.1 rfl (lv_room (Nat.le_of_ble_eq_true rfl)) dX4_takeOut_30 ⟨Nat.le_of_ble_eq_true rfl, Nat.le_of_ble_eq_true rfl⟩) hS hP hD hA (List.Perm.refl _) (fun _ => List.Perm.refl _) (fun x_30 u_30 H locs hw_30 hP hD hS => ?_)
  obtain ⟨L2_30, f2_30⟩ := u_30
  have hP : va_P D vwCl ([(t0, .inr (4, [.ref lw, .ref rk, .ref hs, .ref em, .int mt, .int qn]))] ++ va_pl L2_30 f2_30) H := hP
  have hD : va_D A ([(t0, .inr (4, [.ref lw, .ref rk, .ref hs, .ref em, .int mt, .int qn]))] ++ va_pl L2_30 f2_30) := hD
  have hw_30 : (pExt L2_2 f2_2 L2_30 f2_30) ∧ (x_30 ∈ L2_30) ∧ (x_30 ∉ L2_2) ∧ (rowE cI ((R h b).filter (fun y => decide (y ≠ eb))) (f2_30 x_30)) := hw_30
  obtain ⟨e_30, i_30, o_30, v_30⟩ := hw_30
  obtain ⟨gw, hfw, hgw⟩ := id v_30
  have hxx := e_2.tr e_30
  refine pl_aast hx hb hK hP hD hS (hxx _ ha1).1 ((hxx _ ha1).2.trans ha3) (pl_mem i_30 hfw) (comp_J hK hT) v_16 (b) (by omega) (by omega) (by omega) dX4_takeOut_33 (fun f_33 H locs e_33 hP hD hS => ?_)
  have hP : va_P D vwCl ([(t0, .inr (4, [.ref lw, .ref rk, .ref hs, .ref em, .int mt, .int qn]))] ++ va_pl L2_30 (va_up f2_30 (ha h) (.inl (cJ, 11, .inr (.inr (.inr (.inr f_33))))))) H := hP
  have hD : va_D A ([(t0, .inr (4, [.ref lw, .ref rk, .ref hs, .ref em, .int mt, .int qn]))] ++ va_pl L2_30 (va_up f2_30 (ha h) (.inl (cJ, 11, .inr (.inr (.inr (.inr f_33))))))) := hD
  have hP9 := hP
  have hD9 := hD
  refine W.widen (k := 42) (n := 1602) (by omega) (by omega) ?_
  exact W.vret hx hb hr (fun t ht hW => ⟨⟨⟨L2_30, (va_up f2_30 (ha h) (.inl (cJ, 11, .inr (.inr (.inr (.inr f_33))))))⟩, rfl, (SimK.row (qS.ext hxx) i_30 (if_neg (fun z => o_30 (e_2 _ z).1)) v_30 hh2 hb11 ((hxx _ ha1).2.trans ha3) e_33 rfl).P, ⟨by rw [ht]; exact hP9, hD9⟩⟩, hS.F ht⟩) hS.2.2 dX4_takeOut_34
