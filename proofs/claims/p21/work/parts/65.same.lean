set_option maxHeartbeats 4000000 in
set_option maxRecDepth 100000 in
theorem k_X4_isSame (l : Launch) (D : va_G) (cI cZ cJ cK : ClassId) (hz9 : Nat) (t0 : Nat) (lw : Nat) (rk : Nat) (hs : Nat) (em : Nat) (mt : Int32) (qn : Int32) (L : List Nat) (f : Nat → va_E) (ad : Nat → Nat) (Z : va_AS) (cx : CX) (hl0 : l.stackTraces = false) (hC : CStx Z cx) (hI : AI Z) (hSP : SMA cI cJ cK Z lw rk hs em L f) (hmt : mt = aT Z) (hqn : qn = aQ Z) : MetD lw_cs l yX4_isSame (ws_ yX4_isSame cX4_isSame 13 (Option.some .boolean)) ({ frames := 7, cells := 327, slots := 7177, locals := 106 }) (va_Pc [.ref t0, .ref (ad 0)] (wPre D cI cZ cJ cK hz9 (((clsW cI cZ ad cx) ++ [(t0, .inr (4, [.ref lw, .ref rk, .ref hs, .ref em, .int mt, .int qn]))]) ++ va_pl L f))) (va_Qi (fun r (u : List Nat × (Nat → va_E)) => (r = iI (1))) (fun (u : List Nat × (Nat → va_E)) t => wPost D (va_A (((clsW cI cZ ad cx) ++ [(t0, .inr (4, [.ref lw, .ref rk, .ref hs, .ref em, .int mt, .int qn]))]) ++ va_pl L f) hz9) (((clsW cI cZ ad cx) ++ [(t0, .inr (4, [.ref lw, .ref rk, .ref hs, .ref em, .int mt, .int qn]))]) ++ va_pl u.1 u.2) t) (va_A (((clsW cI cZ ad cx) ++ [(t0, .inr (4, [.ref lw, .ref rk, .ref hs, .ref em, .int mt, .int qn]))]) ++ va_pl L f) hz9)) 327 7177 (va_A (((clsW cI cZ ad cx) ++ [(t0, .inr (4, [.ref lw, .ref rk, .ref hs, .ref em, .int mt, .int qn]))]) ++ va_pl L f) hz9) := by
  refine MetD.ofW (cc := cX4_isSame) (maxL := 13) (ret := (Option.some .boolean)) (by decide) rfl ?_
  intro p e s m args below meth c s₁ hBd hml hv hd0
  refine va_unb ?_
  obtain ⟨rfl, hsz, hP, hD, hK, hT, hZ⟩ := hv
  have hx := hBd.exec
  have hb := hBd.bytes
  have hr := hBd.returns
  have hts : ∀ w ∈ lw_G, w.before _ s = true := fun w h => atoms_spec (ws := (ws_ yX4_isSame cX4_isSame 13 (Option.some .boolean))) hBd.pre w (List.mem_cons_of_mem _ h)
  have hown : s.vm.findClass RX4 = some m.cls := findClass_of_methodNamed hBd.named
  have hlocks := hBd.notSynchronized
  subst hsz
  have hD := hD.self (sz := s.heap.size)
  have hZA := hZ.own hP
  generalize hAe : va_A (((clsW cI cZ ad cx) ++ [(t0, .inr (4, [.ref lw, .ref rk, .ref hs, .ref em, .int mt, .int qn]))]) ++ va_pl L f) s.heap.size = A at hD hZA ⊢
  have hA : ∀ q : Nat, s.heap.size ≤ q → A q := fun q h => by rw [← hAe]; exact Or.inr h
  have hZ := hZA
  have hS : va_S A s.heap s.heap [] := va_S.rf
  have hl := lv_entry ([.ref t0, .ref (ad 0)]) (n := 13) (Nat.le_of_ble_eq_true rfl)
  rw [lg_entry_eq]
  generalize (lg_sl ([.ref t0, .ref (ad 0)]) ++ List.replicate (13 - (lg_sl ([.ref t0, .ref (ad 0)])).length) Slot.unset).toArray = ls at hl ⊢
  have hl : lv_has ls 13 [(0, .ref t0), (1, .ref (ad 0))] := hl
  have hP : va_P D vwCl (((clsW cI cZ ad cx) ++ [(t0, .inr (4, [.ref lw, .ref rk, .ref hs, .ref em, .int mt, .int qn]))]) ++ va_pl L f) s.heap := hP
  have m40 := hI.1
  refine lz_iconst hx hb dX4_isSame_0 (fun x_0 v_0 => ?_)
  refine lv_istore_n (lv' := [(2, .int x_0), (0, .ref t0), (1, .ref (ad 0))]) hx hb dX4_isSame_1 rfl hl (by decide) rfl (fun ls hl => ?_)
  refine lz_iconst hx hb dX4_isSame_2 (fun x_2 v_2 => ?_)
  refine lv_istore_n (lv' := [(3, .int x_2), (2, .int x_0), (0, .ref t0), (1, .ref (ad 0))]) hx hb dX4_isSame_3 rfl hl (by decide) rfl (fun ls hl => ?_)
  refine lz_iconst hx hb dX4_isSame_4 (fun x_4 v_4 => ?_)
  refine lv_istore (lv' := [(4, .int x_4), (3, .int x_2), (2, .int x_0), (0, .ref t0), (1, .ref (ad 0))]) hx hb dX4_isSame_5 hl (by decide) rfl (fun ls hl => ?_)
  have key7 : ∀ (fu : Nat) (a9 : Nat) (aa : Int32) (su : Int32) (li : Int32) (Li : List Nat) (fi : Nat → va_E) (H : Heap) (locs : List Loc) (ls : Array Slot), 3 - a9 < fu → (aa = iI (↑a9)) → (a9 ≤ 2) → (su = iI (↑(sH Z a9))) → (li = iI (↑(lH Z a9))) → (SMA cI cJ cK Z lw rk hs em Li fi) → va_P D vwCl (((clsW cI cZ ad cx) ++ [(t0, .inr (4, [.ref lw, .ref rk, .ref hs, .ref em, .int mt, .int qn]))]) ++ va_pl Li fi) H → va_D A (((clsW cI cZ ad cx) ++ [(t0, .inr (4, [.ref lw, .ref rk, .ref hs, .ref em, .int mt, .int qn]))]) ++ va_pl Li fi) → va_S A s.heap H locs → lv_has ls 13 [(4, .int aa), (3, .int li), (2, .int su), (0, .ref t0), (1, .ref (ad 0))] → W p l e (headSpec (ws_ yX4_isSame cX4_isSame 13 (Option.some .boolean)) ({ frames := 7, cells := 327, slots := 7177, locals := 106 })).room s m ([.ref t0, .ref (ad 0)] : List Value).toArray below meth c H locs (123 * a9) (3446 * a9) (MQD lw_cs below (va_Qi (fun r (u : List Nat × (Nat → va_E)) => (r = iI (1))) (fun (u : List Nat × (Nat → va_E)) t => wPost D A (((clsW cI cZ ad cx) ++ [(t0, .inr (4, [.ref lw, .ref rk, .ref hs, .ref em, .int mt, .int qn]))]) ++ va_pl u.1 u.2) t) A) ([.ref t0, .ref (ad 0)] : List Value).toArray s 327 7177 A) (F0 m 7 ls []) := by
    intro fu
    induction fu with
    | zero => intros; omega
    | succ fu ih7 =>
      intro a9 aa su li Li fi H locs ls hfu hia hla hsu hli hSPi hP hD hS hl
      obtain ⟨K, ha, ea, rr, qS⟩ := id hSPi
      obtain ⟨⟨lw1, lw2, gl, lw3, lw4⟩, ⟨rk1, rk2, gg, rk3, rk4⟩, ⟨hs1, hs2, gs, hs3, hs4⟩, ⟨em1, em2, ge, em3, em4⟩, q5, q6, q7⟩ := id qS
      refine lv_iload hx hb dX4_isSame_7 (lv_at hl 0 rfl) ?_
      refine lz_iconst hx hb dX4_isSame_9 (fun x_9 v_9 => ?_)
      refine lz_icmp_ge (tgt := 308) hx hb hia v_9 ⟨by omega, by omega⟩ dX4_isSame_10 (by decide) (fun c_10 => ?_) (fun c_10 => ?_)
      · refine lz_iconst hx hb dX4_isSame_308 (fun x_308 v_308 => ?_)
        refine lv_istore (lv' := [(4, .int x_308), (3, .int li), (2, .int su), (0, .ref t0), (1, .ref (ad 0))]) hx hb dX4_isSame_309 hl (by decide) rfl (fun ls hl => ?_)
        have key311 : ∀ (fu : Nat) (e9 : Nat) (ee : Int32) (Lk : List Nat) (fk : Nat → va_E) (H : Heap) (locs : List Loc) (ls : Array Slot), aN Z + 1 - e9 < fu → (ee = iI (↑e9)) → (e9 ≤ aN Z) → (SMA cI cJ cK Z lw rk hs em Lk fk) → va_P D vwCl (((clsW cI cZ ad cx) ++ [(t0, .inr (4, [.ref lw, .ref rk, .ref hs, .ref em, .int mt, .int qn]))]) ++ va_pl Lk fk) H → va_D A (((clsW cI cZ ad cx) ++ [(t0, .inr (4, [.ref lw, .ref rk, .ref hs, .ref em, .int mt, .int qn]))]) ++ va_pl Lk fk) → va_S A s.heap H locs → lv_has ls 13 [(4, .int ee), (3, .int li), (2, .int su), (0, .ref t0), (1, .ref (ad 0))] → W p l e (headSpec (ws_ yX4_isSame cX4_isSame 13 (Option.some .boolean)) ({ frames := 7, cells := 327, slots := 7177, locals := 106 })).room s m ([.ref t0, .ref (ad 0)] : List Value).toArray below meth c H locs (246 + 2 * e9) (6892 + 7 * e9) (MQD lw_cs below (va_Qi (fun r (u : List Nat × (Nat → va_E)) => (r = iI (1))) (fun (u : List Nat × (Nat → va_E)) t => wPost D A (((clsW cI cZ ad cx) ++ [(t0, .inr (4, [.ref lw, .ref rk, .ref hs, .ref em, .int mt, .int qn]))]) ++ va_pl u.1 u.2) t) A) ([.ref t0, .ref (ad 0)] : List Value).toArray s 327 7177 A) (F0 m 311 ls []) := by
          intro fu
          induction fu with
          | zero => intros; omega
          | succ fu ih311 =>
            intro e9 ee Lk fk H locs ls hfu hie hle9 hSPk hP hD hS hl
            obtain ⟨K, ha, ea, rr, qS⟩ := id hSPk
            obtain ⟨⟨lw1, lw2, gl, lw3, lw4⟩, ⟨rk1, rk2, gg, rk3, rk4⟩, ⟨hs1, hs2, gs, hs3, hs4⟩, ⟨em1, em2, ge, em3, em4⟩, q5, q6, q7⟩ := id qS
            refine lv_iload hx hb dX4_isSame_311 (lv_at hl 0 rfl) ?_
            refine lv_aload_n hx hb dX4_isSame_313 rfl (lv_at hl 3 rfl) ?_
            refine va_get (D := D) (ci := 4) (v := .ref em) (C := RX4) (T := TX4) (N := 6) hx hb hts iX4 hown hK hP 24 rfl rfl 3 (by decide) (hts _ qw620) (fun _ h9 => h9) rfl dX4_isSame_314 ?_
            refine rd_alen hx hb hK hP 2 (pl_mem em1 em3) rfl dX4_isSame_317 (fun x_317 v_317 => ?_)
            have v_317 : x_317 = iI (↑(aN Z)) := v_317
            refine lz_icmp_ge (tgt := 423) hx hb hie v_317 ⟨by omega, by omega⟩ dX4_isSame_318 (by decide) (fun c_318 => ?_) (fun c_318 => ?_)
            · refine lz_iconst hx hb dX4_isSame_423 (fun x_423 v_423 => ?_)
              refine pl_new hx hb (hts _ qw53) 0 rfl hK hP hD hS hA v_423 (5) (by omega) (by omega) (by show (246 + 2 * e9) + 1 ≤ 327; omega) (by show (6892 + 7 * e9) + 5 ≤ 7177; omega) dX4_isSame_424 (fun n_424 H hq_424 hP hD hS => ?_)
              have hP : va_P D vwCl (((clsW cI cZ ad cx) ++ [(t0, .inr (4, [.ref lw, .ref rk, .ref hs, .ref em, .int mt, .int qn]))]) ++ va_pl (Lk ++ [n_424]) (va_up fk n_424 (.inl (cI, 5, .inl (fun _ => 0))))) H := hP
              have hD : va_D A (((clsW cI cZ ad cx) ++ [(t0, .inr (4, [.ref lw, .ref rk, .ref hs, .ref em, .int mt, .int qn]))]) ++ va_pl (Lk ++ [n_424]) (va_up fk n_424 (.inl (cI, 5, .inl (fun _ => 0))))) := hD
              have hn_lw_n_424 : lw ≠ n_424 := fun z => hq_424 (by rw [← z]; exact lw1)
              have hn_em_n_424 : em ≠ n_424 := fun z => hq_424 (by rw [← z]; exact em1)
              have hn_hs_n_424 : hs ≠ n_424 := fun z => hq_424 (by rw [← z]; exact hs1)
              have hn_rk_n_424 : rk ≠ n_424 := fun z => hq_424 (by rw [← z]; exact rk1)
              refine lv_dup hx hb dX4_isSame_426 rfl ?_
              refine lz_iconst hx hb dX4_isSame_427 (fun x_427 v_427 => ?_)
              refine lv_aload_n hx hb dX4_isSame_428 rfl (lv_at hl 3 rfl) ?_
              refine va_get (D := D) (ci := 4) (v := .ref em) (C := RX4) (T := TX4) (N := 6) hx hb hts iX4 hown hK hP 24 rfl rfl 3 (by decide) (hts _ qw620) (fun _ h9 => h9) rfl dX4_isSame_429 ?_
              refine rd_alen hx hb hK hP 2 (pl_mem (List.mem_append_left _ em1) ((va_up_ne _ _ hn_em_n_424).trans em3)) rfl dX4_isSame_432 (fun x_432 v_432 => ?_)
              have v_432 : x_432 = iI (↑(aN Z)) := v_432
              refine pl_iast hx hb hK hP hD hS 0 (List.mem_append_right _ List.mem_cons_self) (va_up_self _ _ _) rfl v_427 (0) (by omega) (by omega) (by omega) dX4_isSame_433 (fun f_433 H locs e_433 hP hD hS => ?_)
              rw [va_uu] at hP hD
              have hP : va_P D vwCl (((clsW cI cZ ad cx) ++ [(t0, .inr (4, [.ref lw, .ref rk, .ref hs, .ref em, .int mt, .int qn]))]) ++ va_pl (Lk ++ [n_424]) (va_up fk n_424 (.inl (cI, 5, .inl f_433)))) H := hP
              have hD : va_D A (((clsW cI cZ ad cx) ++ [(t0, .inr (4, [.ref lw, .ref rk, .ref hs, .ref em, .int mt, .int qn]))]) ++ va_pl (Lk ++ [n_424]) (va_up fk n_424 (.inl (cI, 5, .inl f_433)))) := hD
              refine lv_dup hx hb dX4_isSame_434 rfl ?_
              refine lz_iconst hx hb dX4_isSame_435 (fun x_435 v_435 => ?_)
              refine lv_iload_n hx hb dX4_isSame_436 rfl (lv_at hl 1 rfl) ?_
              refine pl_iast hx hb hK hP hD hS 0 (List.mem_append_right _ List.mem_cons_self) (va_up_self _ _ _) rfl v_435 (1) (by omega) (by omega) (by omega) dX4_isSame_437 (fun f_437 H locs e_437 hP hD hS => ?_)
              rw [va_uu] at hP hD
              have hP : va_P D vwCl (((clsW cI cZ ad cx) ++ [(t0, .inr (4, [.ref lw, .ref rk, .ref hs, .ref em, .int mt, .int qn]))]) ++ va_pl (Lk ++ [n_424]) (va_up fk n_424 (.inl (cI, 5, .inl f_437)))) H := hP
              have hD : va_D A (((clsW cI cZ ad cx) ++ [(t0, .inr (4, [.ref lw, .ref rk, .ref hs, .ref em, .int mt, .int qn]))]) ++ va_pl (Lk ++ [n_424]) (va_up fk n_424 (.inl (cI, 5, .inl f_437)))) := hD
              refine lv_dup hx hb dX4_isSame_438 rfl ?_
              refine lz_iconst hx hb dX4_isSame_439 (fun x_439 v_439 => ?_)
              refine lv_aload_n hx hb dX4_isSame_440 rfl (lv_at hl 3 rfl) ?_
              refine va_get (D := D) (ci := 4) (v := .int mt) (C := RX4) (T := TX4) (N := 6) hx hb hts iX4 hown hK hP 24 rfl rfl 4 (by decide) (hts _ qw622) (fun _ h9 => h9) rfl dX4_isSame_441 ?_
              refine pl_iast hx hb hK hP hD hS 0 (List.mem_append_right _ List.mem_cons_self) (va_up_self _ _ _) rfl v_439 (2) (by omega) (by omega) (by omega) dX4_isSame_444 (fun f_444 H locs e_444 hP hD hS => ?_)
              rw [va_uu] at hP hD
              have hP : va_P D vwCl (((clsW cI cZ ad cx) ++ [(t0, .inr (4, [.ref lw, .ref rk, .ref hs, .ref em, .int mt, .int qn]))]) ++ va_pl (Lk ++ [n_424]) (va_up fk n_424 (.inl (cI, 5, .inl f_444)))) H := hP
              have hD : va_D A (((clsW cI cZ ad cx) ++ [(t0, .inr (4, [.ref lw, .ref rk, .ref hs, .ref em, .int mt, .int qn]))]) ++ va_pl (Lk ++ [n_424]) (va_up fk n_424 (.inl (cI, 5, .inl f_444)))) := hD
              refine lv_dup hx hb dX4_isSame_445 rfl ?_
              refine lz_iconst hx hb dX4_isSame_446 (fun x_446 v_446 => ?_)
              refine lv_aload_n hx hb dX4_isSame_447 rfl (lv_at hl 3 rfl) ?_
              refine va_get (D := D) (ci := 4) (v := .ref rk) (C := RX4) (T := TX4) (N := 6) hx hb hts iX4 hown hK hP 24 rfl rfl 1 (by decide) (hts _ qw618) (fun _ h9 => h9) rfl dX4_isSame_448 ?_
              refine lz_iconst hx hb dX4_isSame_451 (fun x_451 v_451 => ?_)
              refine rd_iald hx hb hK hP 0 (pl_mem (List.mem_append_left _ rk1) ((va_up_ne _ _ hn_rk_n_424).trans rk3)) rfl v_451 (0) (by omega) (by omega) (by omega) dX4_isSame_452 (fun x_452 e_452 => ?_)
              refine lv_aload_n hx hb dX4_isSame_453 rfl (lv_at hl 3 rfl) ?_
              refine va_get (D := D) (ci := 4) (v := .ref rk) (C := RX4) (T := TX4) (N := 6) hx hb hts iX4 hown hK hP 24 rfl rfl 1 (by decide) (hts _ qw618) (fun _ h9 => h9) rfl dX4_isSame_454 ?_
              refine lz_iconst hx hb dX4_isSame_457 (fun x_457 v_457 => ?_)
              refine rd_iald hx hb hK hP 0 (pl_mem (List.mem_append_left _ rk1) ((va_up_ne _ _ hn_rk_n_424).trans rk3)) rfl v_457 (1) (by omega) (by omega) (by omega) dX4_isSame_458 (fun x_458 e_458 => ?_)
              refine lv_iadd hx hb dX4_isSame_459 ?_
              refine lv_topi (fun x_459 e_459 => ?_)
              refine pl_iast hx hb hK hP hD hS 0 (List.mem_append_right _ List.mem_cons_self) (va_up_self _ _ _) rfl v_446 (3) (by omega) (by omega) (by omega) dX4_isSame_460 (fun f_460 H locs e_460 hP hD hS => ?_)
              rw [va_uu] at hP hD
              have hP : va_P D vwCl (((clsW cI cZ ad cx) ++ [(t0, .inr (4, [.ref lw, .ref rk, .ref hs, .ref em, .int mt, .int qn]))]) ++ va_pl (Lk ++ [n_424]) (va_up fk n_424 (.inl (cI, 5, .inl f_460)))) H := hP
              have hD : va_D A (((clsW cI cZ ad cx) ++ [(t0, .inr (4, [.ref lw, .ref rk, .ref hs, .ref em, .int mt, .int qn]))]) ++ va_pl (Lk ++ [n_424]) (va_up fk n_424 (.inl (cI, 5, .inl f_460)))) := hD
              refine lv_dup hx hb dX4_isSame_461 rfl ?_
              refine lz_iconst hx hb dX4_isSame_462 (fun x_462 v_462 => ?_)
              refine lv_aload_n hx hb dX4_isSame_463 rfl (lv_at hl 3 rfl) ?_
              refine va_get (D := D) (ci := 4) (v := .int qn) (C := RX4) (T := TX4) (N := 6) hx hb hts iX4 hown hK hP 24 rfl rfl 5 (by decide) (hts _ qw624) (fun _ h9 => h9) rfl dX4_isSame_464 ?_
              refine pl_iast hx hb hK hP hD hS 0 (List.mem_append_right _ List.mem_cons_self) (va_up_self _ _ _) rfl v_462 (4) (by omega) (by omega) (by omega) dX4_isSame_467 (fun f_467 H locs e_467 hP hD hS => ?_)
              rw [va_uu] at hP hD
              have hP : va_P D vwCl (((clsW cI cZ ad cx) ++ [(t0, .inr (4, [.ref lw, .ref rk, .ref hs, .ref em, .int mt, .int qn]))]) ++ va_pl (Lk ++ [n_424]) (va_up fk n_424 (.inl (cI, 5, .inl f_467)))) H := hP
              have hD : va_D A (((clsW cI cZ ad cx) ++ [(t0, .inr (4, [.ref lw, .ref rk, .ref hs, .ref em, .int mt, .int qn]))]) ++ va_pl (Lk ++ [n_424]) (va_up fk n_424 (.inl (cI, 5, .inl f_467)))) := hD
              have ha2 : a9 = 2 := by omega
              have hl2 : lH Z a9 = (aR Z 0).length + (aR Z 1).length := by
                rw [ha2]
                show 0 + (aR Z 0).length + (aR Z 1).length = (aR Z 0).length + (aR Z 1).length
                omega
              have hs2 : sH Z a9 = sumL (aH Z) (aR Z 0) + sumL (aH Z) (aR Z 1) := by
                rw [ha2]
                show 0 + sumL (aH Z) (aR Z 0) + sumL (aH Z) (aR Z 1) = sumL (aH Z) (aR Z 0) + sumL (aH Z) (aR Z 1)
                omega
              have hco : ∀ w : Nat, w < 5 → f_467 w = coV (aN Z) ((aR Z 0).length + (aR Z 1).length) (aT Z) (aG Z 0 + aG Z 1) (aQ Z) ↑w := by
                intro w hw9
                rcases (show w = 0 ∨ w = 1 ∨ w = 2 ∨ w = 3 ∨ w = 4 by omega) with rfl | rfl | rfl | rfl | rfl
                · rw [e_467, upd_n _ _ (by omega), e_460, upd_n _ _ (by omega), e_444, upd_n _ _ (by omega), e_437, upd_n _ _ (by omega), e_433, upd_s]
                  exact (v_432.trans (coV_n.1 rfl).symm)
                · rw [e_467, upd_n _ _ (by omega), e_460, upd_n _ _ (by omega), e_444, upd_n _ _ (by omega), e_437, upd_s]
                  exact ((hli.trans (by rw [hl2])).trans (coV_n.2.1 rfl).symm)
                · rw [e_467, upd_n _ _ (by omega), e_460, upd_n _ _ (by omega), e_444, upd_s]
                  exact (hmt.trans (coV_n.2.2.1 rfl).symm)
                · rw [e_467, upd_n _ _ (by omega), e_460, upd_s]
                  exact ((by rw [e_459, e_452, e_458, rk4 0 (by decide), rk4 1 (by decide)] : x_459 = aG Z 0 + aG Z 1).trans (coV_n.2.2.2.1 rfl).symm)
                · rw [e_467, upd_s]
                  exact (hqn.trans (coV_n.2.2.2.2 rfl).symm)
              refine lv_astore (lv' := [(4, .ref n_424), (3, .int li), (2, .int su), (0, .ref t0), (1, .ref (ad 0))]) hx hb dX4_isSame_468 hl (by decide) rfl (fun ls hl => ?_)
              refine lz_iconst hx hb dX4_isSame_470 (fun x_470 v_470 => ?_)
              refine lv_istore (lv' := [(5, .int x_470), (4, .ref n_424), (3, .int li), (2, .int su), (0, .ref t0), (1, .ref (ad 0))]) hx hb dX4_isSame_471 hl (by decide) rfl (fun ls hl => ?_)
              have key473 : ∀ (fu : Nat) (w9 : Nat) (ww : Int32) (H : Heap) (locs : List Loc) (ls : Array Slot), 6 - w9 < fu → (ww = iI (↑w9)) → (w9 ≤ 5) → va_P D vwCl (((clsW cI cZ ad cx) ++ [(t0, .inr (4, [.ref lw, .ref rk, .ref hs, .ref em, .int mt, .int qn]))]) ++ va_pl (Lk ++ [n_424]) (va_up fk n_424 (.inl (cI, 5, .inl f_467)))) H → va_D A (((clsW cI cZ ad cx) ++ [(t0, .inr (4, [.ref lw, .ref rk, .ref hs, .ref em, .int mt, .int qn]))]) ++ va_pl (Lk ++ [n_424]) (va_up fk n_424 (.inl (cI, 5, .inl f_467)))) → va_S A s.heap H locs → lv_has ls 13 [(5, .int ww), (4, .ref n_424), (3, .int li), (2, .int su), (0, .ref t0), (1, .ref (ad 0))] → W p l e (headSpec (ws_ yX4_isSame cX4_isSame 13 (Option.some .boolean)) ({ frames := 7, cells := 327, slots := 7177, locals := 106 })).room s m ([.ref t0, .ref (ad 0)] : List Value).toArray below meth c H locs ((246 + 2 * e9) + 1) ((6892 + 7 * e9) + 5) (MQD lw_cs below (va_Qi (fun r (u : List Nat × (Nat → va_E)) => (r = iI (1))) (fun (u : List Nat × (Nat → va_E)) t => wPost D A (((clsW cI cZ ad cx) ++ [(t0, .inr (4, [.ref lw, .ref rk, .ref hs, .ref em, .int mt, .int qn]))]) ++ va_pl u.1 u.2) t) A) ([.ref t0, .ref (ad 0)] : List Value).toArray s 327 7177 A) (F0 m 473 ls []) := by
                intro fu
                induction fu with
                | zero => intros; omega
                | succ fu ih473 =>
                  intro w9 ww H locs ls hfu hiw hlw9 hP hD hS hl
                  refine lv_iload hx hb dX4_isSame_473 (lv_at hl 0 rfl) ?_
                  refine lz_iconst hx hb dX4_isSame_475 (fun x_475 v_475 => ?_)
                  refine lz_icmp_ge (tgt := 501) hx hb hiw v_475 ⟨by omega, by omega⟩ dX4_isSame_476 (by decide) (fun c_476 => ?_) (fun c_476 => ?_)
                  · have hts0 := hts
                    have hT0 := hT
                    have hZ0 := hZ
                    have hK0 := hK
                    refine W.base ?_
                    have hts := dr_words hts0 s.drawn
                    have hT : TW (s.setDrawn s.drawn) := TW.same (s := s) rfl hT0
                    have hZ : ZW A (s.setDrawn s.drawn) (s.setDrawn s.drawn).heap := ZW.moved (u := s) (Vm.Alike.refl s.vm) hZ0
                    have hK : va_K D vwCl (KT cI cZ cJ cK) (s.setDrawn s.drawn) := va_K.moved (u := s) (Vm.Alike.refl s.vm) hK0
                    refine lv_aload_n hx hb dX4_isSame_501 rfl (lv_at hl 5 rfl) ?_
                    refine cr_dD hd0 (va_runV_D (As := []) (rest := []) ⟨hx, hb, hml, hown, hts⟩ (k_X3_mean_P l D cI cZ cJ cK _ ad Z cx hC hI) (cwV 0 hts (gV qw505 qw506 qw507 qw10 qw508) rfl rfl rfl (by decide +kernel) ⟨Nat.le_of_ble_eq_true rfl, Nat.le_of_ble_eq_true rfl⟩) (pvP (ci := 3) (r := (RX3, TX3, 5)) (q0 := 0) (wr := ([(t0, .inr (4, [.ref lw, .ref rk, .ref hs, .ref em, .int mt, .int qn]))] ++ va_pl (Lk ++ [n_424]) (va_up fk n_424 (.inl (cI, 5, .inl f_467))))) hP hD hK hT hZ hS (pm_2 _ _ _) rfl rfl) rfl rfl hl.1 rfl (lv_room (Nat.le_of_ble_eq_true rfl)) dX4_isSame_502 ⟨(by show ((246 + 2 * e9) + 1) ≤ 327; omega), (by show ((6892 + 7 * e9) + 5) ≤ 7177; omega)⟩) hS hP (fun x_502 H locs d1 hd1 hw_502 hP hS => ?_)
                    replace hw_502 : (meP (sumL (aH Z) (aR Z 0) + sumL (aH Z) (aR Z 1)) ((aR Z 0).length + (aR Z 1).length) x_502) := hw_502
                    have v_502 := hw_502
                    have hts := dr_words hts0 d1
                    have hT : TW (s.setDrawn d1) := TW.same (s := s) rfl hT0
                    have hZ : ZW A (s.setDrawn d1) (s.setDrawn d1).heap := ZW.moved (u := s) (Vm.Alike.refl s.vm) hZ0
                    have hK : va_K D vwCl (KT cI cZ cJ cK) (s.setDrawn d1) := va_K.moved (u := s) (Vm.Alike.refl s.vm) hK0
                    have hN9 := two_len (hI.2.2.1 0 (by decide)).1 (hI.2.2.1 1 (by decide)).1 (hI.2.2.1 0 (by decide)).2.1.2.1 (hI.2.2.1 1 (by decide)).2.1.2.1
                    refine lv_iload_n hx hb dX4_isSame_505 rfl (lv_at hl 2 rfl) ?_
                    refine lz_if_ne (tgt := 513) hx hb hli (by omega) dX4_isSame_506 (by decide) (fun c_506 => ?_) (fun c_506 => ?_)
                    · refine lv_iload_n hx hb dX4_isSame_513 rfl (lv_at hl 3 rfl) ?_
                      refine lv_i2d hx hb dX4_isSame_514 ?_
                      refine lv_iload_n hx hb dX4_isSame_515 rfl (lv_at hl 2 rfl) ?_
                      refine lv_i2d hx hb dX4_isSame_516 ?_
                      refine lv_ddiv_any hd1 lw_bits hx hb dX4_isSame_517 (fun x_517 d9 hal_517 hd9 => ?_)
                      refine lv_dcmp hx hb dX4_isSame_518 ?_
                      refine lv_topi (fun x_518 e_518 => ?_)
                      have hy9 : meP (sumL (aH Z) (aR Z 0) + sumL (aH Z) (aR Z 1)) ((aR Z 0).length + (aR Z 1).length) x_517 := ⟨fun q => absurd q (by omega), fun _ => by rw [hsu, hli, hl2, hs2] at hal_517; exact hal_517⟩
                      refine lv_if_ne (tgt := 526) hx hb dX4_isSame_519 (by decide) (fun c_519 => ?_) (fun c_519 => ?_)
                      · exfalso; exact absurd (e_518.trans (me_eq (by omega) v_502 hy9)) c_519
                      · refine lz_iconst hx hb dX4_isSame_522 (fun x_522 v_522 => ?_)
                        refine lv_goto (tgt := 527) hx hb dX4_isSame_523 (by decide) ?_
                        have hP9 := hP
                        have hD9 := hD
                        refine W.endD hd9 ?_
                        refine W.widen (k := 327) (n := 7177) (by omega) (by omega) ?_
                        exact W.zret (v := x_522) (ty := .boolean) hx hb hr (by rw [v_522]; decide) (fun t ht hW => ⟨⟨x_522, ⟨(Lk ++ [n_424]), (va_up fk n_424 (.inl (cI, 5, .inl f_467)))⟩, rfl, v_522, ⟨by rw [ht]; exact hP9, hD9⟩⟩, hS.F ht⟩) hS.2.2 dX4_isSame_527
                    · refine lv_dconst0 hx hb dX4_isSame_509 ?_
                      refine lv_goto (tgt := 518) hx hb dX4_isSame_510 (by decide) ?_
                      refine lv_dcmp hx hb dX4_isSame_518 ?_
                      refine lv_topi (fun x_518 e_518 => ?_)
                      have hy9 : meP (sumL (aH Z) (aR Z 0) + sumL (aH Z) (aR Z 1)) ((aR Z 0).length + (aR Z 1).length) FP.dconst0 := ⟨fun _ => rfl, fun q => absurd (by omega) q⟩
                      refine lv_if_ne (tgt := 526) hx hb dX4_isSame_519 (by decide) (fun c_519 => ?_) (fun c_519 => ?_)
                      · exfalso; exact absurd (e_518.trans (me_eq (by omega) v_502 hy9)) c_519
                      · refine lz_iconst hx hb dX4_isSame_522 (fun x_522 v_522 => ?_)
                        refine lv_goto (tgt := 527) hx hb dX4_isSame_523 (by decide) ?_
                        have hP9 := hP
                        have hD9 := hD
                        refine W.endD hd1 ?_
                        refine W.widen (k := 327) (n := 7177) (by omega) (by omega) ?_
                        exact W.zret (v := x_522) (ty := .boolean) hx hb hr (by rw [v_522]; decide) (fun t ht hW => ⟨⟨x_522, ⟨(Lk ++ [n_424]), (va_up fk n_424 (.inl (cI, 5, .inl f_467)))⟩, rfl, v_522, ⟨by rw [ht]; exact hP9, hD9⟩⟩, hS.F ht⟩) hS.2.2 dX4_isSame_527
                  · refine lv_aload_n hx hb dX4_isSame_479 rfl (lv_at hl 5 rfl) ?_
                    refine lv_iload hx hb dX4_isSame_480 (lv_at hl 0 rfl) ?_
                    refine cr_i (va_runV (As := [.int ww]) (rest := []) ⟨hx, hb, hml, hown, hts⟩ (k_X3_count_P l D cI cZ cJ cK _ ww ad Z cx (↑w9) hC hI (hiw.trans (congrArg iI (by omega))) (by omega)) (cwV 1 hts (gV qw504 qw398 qw399 qw10 qw400) rfl rfl rfl (by decide +kernel) ⟨Nat.le_of_ble_eq_true rfl, Nat.le_of_ble_eq_true rfl⟩) (pvP (ci := 3) (r := (RX3, TX3, 5)) (q0 := 0) (wr := ([(t0, .inr (4, [.ref lw, .ref rk, .ref hs, .ref em, .int mt, .int qn]))] ++ va_pl (Lk ++ [n_424]) (va_up fk n_424 (.inl (cI, 5, .inl f_467))))) hP hD hK hT hZ hS (pm_2 _ _ _) rfl rfl) rfl rfl hl.1 rfl (lv_room (Nat.le_of_ble_eq_true rfl)) dX4_isSame_482 ⟨(by show ((246 + 2 * e9) + 1) ≤ 327; omega), (by show ((6892 + 7 * e9) + 5) ≤ 7177; omega)⟩) hS hP (fun x_482 H locs hw_482 hP hS => ?_)
                    replace hw_482 : (x_482 = coV (aN Z) ((aR Z 0).length + (aR Z 1).length) (aT Z) (aG Z 0 + aG Z 1) (aQ Z) (↑w9)) := hw_482
                    have v_482 := hw_482
                    refine lv_aload hx hb dX4_isSame_485 (lv_at hl 1 rfl) ?_
                    refine lv_iload hx hb dX4_isSame_487 (lv_at hl 0 rfl) ?_
                    refine rd_iald hx hb hK hP 0 (pl_mem (List.mem_append_right _ List.mem_cons_self) (va_up_self _ _ _)) rfl hiw (w9) (by omega) (by omega) (by omega) dX4_isSame_489 (fun x_489 e_489 => ?_)
                    refine lv_icmp_eq (tgt := 495) hx hb dX4_isSame_490 (by decide) (fun c_490 => ?_) (fun c_490 => ?_)
                    · refine lz_iinc (lv2 := fun z => [(5, .int z), (4, .ref n_424), (3, .int li), (2, .int su), (0, .ref t0), (1, .ref (ad 0))]) hx hb dX4_isSame_495 hl (k := 0) rfl hiw (by decide) (fun _ => rfl) (fun x_495 ls v_495 hl => ?_)
                      refine lv_goto (tgt := 473) hx hb dX4_isSame_498 (by decide) ?_
                      exact ih473 (w9 + 1) x_495 _ _ _ (by omega) (v_495.trans (congrArg iI (by omega))) (by omega) hP hD hS (lv_sub hl [0, 1, 2, 3, 4, 5] rfl)
                    · exfalso; exact absurd (v_482.trans ((hco w9 (by omega)).symm.trans e_489.symm)) c_490
              exact key473 _ 0 x_470 _ _ _ (Nat.lt_succ_self _) (v_470.trans (congrArg iI (by omega))) (by omega) hP hD hS (lv_sub hl [0, 1, 2, 3, 4, 5] rfl)
            · refine lv_aload_n hx hb dX4_isSame_321 rfl (lv_at hl 3 rfl) ?_
              refine lv_iload hx hb dX4_isSame_322 (lv_at hl 0 rfl) ?_
              refine cp_r (wr := (clsW cI cZ ad cx)) (ws2 := fun u9 => (((clsW cI cZ ad cx) ++ [(t0, .inr (4, [.ref lw, .ref rk, .ref hs, .ref em, .int mt, .int qn]))]) ++ va_pl u9.1 u9.2)) (va_runV (As := [.int ee]) (rest := []) ⟨hx, hb, hml, hown, hts⟩ (k_X4_where l D cI cZ cJ cK _ t0 ee lw rk hs em mt qn Lk fk e9 (aN Z) (aH Z) (aM Z) (aK Z) (aL Z) (aG Z) (rwA Z) (hSPk) (hie.trans (congrArg iI (by omega))) (by have := hI.1; omega) (rw_bd hI)) (cwV 1 hts (gV qw499 qw500 qw501 qw14 qw502) rfl rfl rfl (by decide +kernel) ⟨Nat.le_of_ble_eq_true rfl, Nat.le_of_ble_eq_true rfl⟩) (pvP (ci := 4) (r := (RX4, TX4, 6)) (q0 := 24) (wr := (clsW cI cZ ad cx)) hP hD hK hT hZ hS (pm_1 _ _ _) rfl rfl) rfl rfl hl.1 rfl (lv_room (Nat.le_of_ble_eq_true rfl)) dX4_isSame_324 ⟨(by show ((246 + 2 * e9) + 1) ≤ 327; omega), (by show ((6892 + 7 * e9) + 2) ≤ 7177; omega)⟩) hS hP hD hA (pm_1 _ _ _) (fun _ => (pm_1 _ _ _).symm) (fun x_324 u_324 H locs hw_324 hP hD hS => ?_)
              obtain ⟨L2_324, f2_324⟩ := u_324
              have hP : va_P D vwCl (((clsW cI cZ ad cx) ++ [(t0, .inr (4, [.ref lw, .ref rk, .ref hs, .ref em, .int mt, .int qn]))]) ++ va_pl L2_324 f2_324) H := hP
              have hD : va_D A (((clsW cI cZ ad cx) ++ [(t0, .inr (4, [.ref lw, .ref rk, .ref hs, .ref em, .int mt, .int qn]))]) ++ va_pl L2_324 f2_324) := hD
              replace hw_324 : (pExt Lk fk L2_324 f2_324) ∧ (x_324 ∈ L2_324) ∧ (x_324 ∉ Lk) ∧ (∃ g : Nat → Int32, f2_324 x_324 = .inl (cI, 2, .inl g) ∧ ((∃ h b, h < 2 ∧ b < 11 ∧ e9 ∈ (rwA Z) h b ∧ g 0 = iI ↑h ∧ g 1 = iI ↑b) ∨ ((∀ h b, h < 2 → b < 11 → e9 ∉ (rwA Z) h b) ∧ g 0 = iI (-1) ∧ g 1 = iI (-1)))) := hw_324
              obtain ⟨e_324, i_324, o_324, v_324⟩ := hw_324
              obtain ⟨gw, hfw, hgw⟩ := id v_324
              have hwa := wh_at hI (show e9 < aN Z by omega) hgw
              clear hgw v_324
              have hSP4 := SimP.ext hSPk e_324
              have m4 := hI.1
              clear qS
              obtain ⟨K, ha, ea, rr, qS⟩ := id hSP4
              obtain ⟨⟨lw1, lw2, gl, lw3, lw4⟩, ⟨rk1, rk2, gg, rk3, rk4⟩, ⟨hs1, hs2, gs, hs3, hs4⟩, ⟨em1, em2, ge, em3, em4⟩, q5, q6, q7⟩ := id qS
              obtain ⟨ea1, ea2, gx, ea3, ea4, ea5, ea6⟩ := q7 e9 (by omega)
              refine lv_astore (lv' := [(5, .ref x_324), (4, .int ee), (3, .int li), (2, .int su), (0, .ref t0), (1, .ref (ad 0))]) hx hb dX4_isSame_327 hl (by decide) rfl (fun ls hl => ?_)
              refine lz_iconst hx hb dX4_isSame_329 (fun x_329 v_329 => ?_)
              refine pl_new hx hb (hts _ qw53) 0 rfl hK hP hD hS hA v_329 (5) (by omega) (by omega) (by show ((246 + 2 * e9) + 1) + 1 ≤ 327; omega) (by show ((6892 + 7 * e9) + 2) + 5 ≤ 7177; omega) dX4_isSame_330 (fun n_330 H hq_330 hP hD hS => ?_)
              have hP : va_P D vwCl (((clsW cI cZ ad cx) ++ [(t0, .inr (4, [.ref lw, .ref rk, .ref hs, .ref em, .int mt, .int qn]))]) ++ va_pl (L2_324 ++ [n_330]) (va_up f2_324 n_330 (.inl (cI, 5, .inl (fun _ => 0))))) H := hP
              have hD : va_D A (((clsW cI cZ ad cx) ++ [(t0, .inr (4, [.ref lw, .ref rk, .ref hs, .ref em, .int mt, .int qn]))]) ++ va_pl (L2_324 ++ [n_330]) (va_up f2_324 n_330 (.inl (cI, 5, .inl (fun _ => 0))))) := hD
              have hn_lw_n_330 : lw ≠ n_330 := fun z => hq_330 (by rw [← z]; exact lw1)
              have hn_em_n_330 : em ≠ n_330 := fun z => hq_330 (by rw [← z]; exact em1)
              have hn_hs_n_330 : hs ≠ n_330 := fun z => hq_330 (by rw [← z]; exact hs1)
              have hn_rk_n_330 : rk ≠ n_330 := fun z => hq_330 (by rw [← z]; exact rk1)
              have hn_x_324_n_330 : x_324 ≠ n_330 := fun z => hq_330 (by rw [← z]; exact i_324)
              have hn__ea_e9__n_330 : (ea e9) ≠ n_330 := fun z => hq_330 (by rw [← z]; exact ea1)
              refine lv_dup hx hb dX4_isSame_332 rfl ?_
              refine lz_iconst hx hb dX4_isSame_333 (fun x_333 v_333 => ?_)
              refine lv_aload_n hx hb dX4_isSame_334 rfl (lv_at hl 4 rfl) ?_
              refine va_get (D := D) (ci := 4) (v := .ref em) (C := RX4) (T := TX4) (N := 6) hx hb hts iX4 hown hK hP 24 rfl rfl 3 (by decide) (hts _ qw620) (fun _ h9 => h9) rfl dX4_isSame_335 ?_
              refine lv_iload hx hb dX4_isSame_338 (lv_at hl 1 rfl) ?_
              refine rd_aald hx hb hK hP 2 (pl_mem (List.mem_append_left _ em1) ((va_up_ne _ _ hn_em_n_330).trans em3)) rfl hie (e9) (by omega) (by omega) (by omega) (em4 _ (by omega)) dX4_isSame_340 ?_
              refine lz_iconst hx hb dX4_isSame_341 (fun x_341 v_341 => ?_)
              refine rd_iald hx hb hK hP 0 (pl_mem (List.mem_append_left _ ea1) ((va_up_ne _ _ hn__ea_e9__n_330).trans ea3)) rfl v_341 (0) (by omega) (by omega) (by omega) dX4_isSame_342 (fun x_342 e_342 => ?_)
              refine pl_iast hx hb hK hP hD hS 0 (List.mem_append_right _ List.mem_cons_self) (va_up_self _ _ _) rfl v_333 (0) (by omega) (by omega) (by omega) dX4_isSame_343 (fun f_343 H locs e_343 hP hD hS => ?_)
              rw [va_uu] at hP hD
              have hP : va_P D vwCl (((clsW cI cZ ad cx) ++ [(t0, .inr (4, [.ref lw, .ref rk, .ref hs, .ref em, .int mt, .int qn]))]) ++ va_pl (L2_324 ++ [n_330]) (va_up f2_324 n_330 (.inl (cI, 5, .inl f_343)))) H := hP
              have hD : va_D A (((clsW cI cZ ad cx) ++ [(t0, .inr (4, [.ref lw, .ref rk, .ref hs, .ref em, .int mt, .int qn]))]) ++ va_pl (L2_324 ++ [n_330]) (va_up f2_324 n_330 (.inl (cI, 5, .inl f_343)))) := hD
              refine lv_dup hx hb dX4_isSame_344 rfl ?_
              refine lz_iconst hx hb dX4_isSame_345 (fun x_345 v_345 => ?_)
              refine lv_aload hx hb dX4_isSame_346 (lv_at hl 0 rfl) ?_
              refine lz_iconst hx hb dX4_isSame_348 (fun x_348 v_348 => ?_)
              refine rd_iald hx hb hK hP 0 (pl_mem (List.mem_append_left _ i_324) ((va_up_ne _ _ hn_x_324_n_330).trans hfw)) rfl v_348 (0) (by omega) (by omega) (by omega) dX4_isSame_349 (fun x_349 e_349 => ?_)
              refine pl_iast hx hb hK hP hD hS 0 (List.mem_append_right _ List.mem_cons_self) (va_up_self _ _ _) rfl v_345 (1) (by omega) (by omega) (by omega) dX4_isSame_350 (fun f_350 H locs e_350 hP hD hS => ?_)
              rw [va_uu] at hP hD
              have hP : va_P D vwCl (((clsW cI cZ ad cx) ++ [(t0, .inr (4, [.ref lw, .ref rk, .ref hs, .ref em, .int mt, .int qn]))]) ++ va_pl (L2_324 ++ [n_330]) (va_up f2_324 n_330 (.inl (cI, 5, .inl f_350)))) H := hP
              have hD : va_D A (((clsW cI cZ ad cx) ++ [(t0, .inr (4, [.ref lw, .ref rk, .ref hs, .ref em, .int mt, .int qn]))]) ++ va_pl (L2_324 ++ [n_330]) (va_up f2_324 n_330 (.inl (cI, 5, .inl f_350)))) := hD
              refine lv_dup hx hb dX4_isSame_351 rfl ?_
              refine lz_iconst hx hb dX4_isSame_352 (fun x_352 v_352 => ?_)
              refine lv_aload hx hb dX4_isSame_353 (lv_at hl 0 rfl) ?_
              refine lz_iconst hx hb dX4_isSame_355 (fun x_355 v_355 => ?_)
              refine rd_iald hx hb hK hP 0 (pl_mem (List.mem_append_left _ i_324) ((va_up_ne _ _ hn_x_324_n_330).trans hfw)) rfl v_355 (1) (by omega) (by omega) (by omega) dX4_isSame_356 (fun x_356 e_356 => ?_)
              refine pl_iast hx hb hK hP hD hS 0 (List.mem_append_right _ List.mem_cons_self) (va_up_self _ _ _) rfl v_352 (2) (by omega) (by omega) (by omega) dX4_isSame_357 (fun f_357 H locs e_357 hP hD hS => ?_)
              rw [va_uu] at hP hD
              have hP : va_P D vwCl (((clsW cI cZ ad cx) ++ [(t0, .inr (4, [.ref lw, .ref rk, .ref hs, .ref em, .int mt, .int qn]))]) ++ va_pl (L2_324 ++ [n_330]) (va_up f2_324 n_330 (.inl (cI, 5, .inl f_357)))) H := hP
              have hD : va_D A (((clsW cI cZ ad cx) ++ [(t0, .inr (4, [.ref lw, .ref rk, .ref hs, .ref em, .int mt, .int qn]))]) ++ va_pl (L2_324 ++ [n_330]) (va_up f2_324 n_330 (.inl (cI, 5, .inl f_357)))) := hD
              refine lv_dup hx hb dX4_isSame_358 rfl ?_
              refine lz_iconst hx hb dX4_isSame_359 (fun x_359 v_359 => ?_)
              refine lv_aload_n hx hb dX4_isSame_360 rfl (lv_at hl 4 rfl) ?_
              refine va_get (D := D) (ci := 4) (v := .ref em) (C := RX4) (T := TX4) (N := 6) hx hb hts iX4 hown hK hP 24 rfl rfl 3 (by decide) (hts _ qw620) (fun _ h9 => h9) rfl dX4_isSame_361 ?_
              refine lv_iload hx hb dX4_isSame_364 (lv_at hl 1 rfl) ?_
              refine rd_aald hx hb hK hP 2 (pl_mem (List.mem_append_left _ em1) ((va_up_ne _ _ hn_em_n_330).trans em3)) rfl hie (e9) (by omega) (by omega) (by omega) (em4 _ (by omega)) dX4_isSame_366 ?_
              refine lz_iconst hx hb dX4_isSame_367 (fun x_367 v_367 => ?_)
              refine rd_iald hx hb hK hP 0 (pl_mem (List.mem_append_left _ ea1) ((va_up_ne _ _ hn__ea_e9__n_330).trans ea3)) rfl v_367 (1) (by omega) (by omega) (by omega) dX4_isSame_368 (fun x_368 e_368 => ?_)
              refine pl_iast hx hb hK hP hD hS 0 (List.mem_append_right _ List.mem_cons_self) (va_up_self _ _ _) rfl v_359 (3) (by omega) (by omega) (by omega) dX4_isSame_369 (fun f_369 H locs e_369 hP hD hS => ?_)
              rw [va_uu] at hP hD
              have hP : va_P D vwCl (((clsW cI cZ ad cx) ++ [(t0, .inr (4, [.ref lw, .ref rk, .ref hs, .ref em, .int mt, .int qn]))]) ++ va_pl (L2_324 ++ [n_330]) (va_up f2_324 n_330 (.inl (cI, 5, .inl f_369)))) H := hP
              have hD : va_D A (((clsW cI cZ ad cx) ++ [(t0, .inr (4, [.ref lw, .ref rk, .ref hs, .ref em, .int mt, .int qn]))]) ++ va_pl (L2_324 ++ [n_330]) (va_up f2_324 n_330 (.inl (cI, 5, .inl f_369)))) := hD
              refine lv_dup hx hb dX4_isSame_370 rfl ?_
              refine lz_iconst hx hb dX4_isSame_371 (fun x_371 v_371 => ?_)
              refine lv_aload_n hx hb dX4_isSame_372 rfl (lv_at hl 4 rfl) ?_
              refine va_get (D := D) (ci := 4) (v := .ref em) (C := RX4) (T := TX4) (N := 6) hx hb hts iX4 hown hK hP 24 rfl rfl 3 (by decide) (hts _ qw620) (fun _ h9 => h9) rfl dX4_isSame_373 ?_
              refine lv_iload hx hb dX4_isSame_376 (lv_at hl 1 rfl) ?_
              refine rd_aald hx hb hK hP 2 (pl_mem (List.mem_append_left _ em1) ((va_up_ne _ _ hn_em_n_330).trans em3)) rfl hie (e9) (by omega) (by omega) (by omega) (em4 _ (by omega)) dX4_isSame_378 ?_
              refine lz_iconst hx hb dX4_isSame_379 (fun x_379 v_379 => ?_)
              refine rd_iald hx hb hK hP 0 (pl_mem (List.mem_append_left _ ea1) ((va_up_ne _ _ hn__ea_e9__n_330).trans ea3)) rfl v_379 (2) (by omega) (by omega) (by omega) dX4_isSame_380 (fun x_380 e_380 => ?_)
              refine pl_iast hx hb hK hP hD hS 0 (List.mem_append_right _ List.mem_cons_self) (va_up_self _ _ _) rfl v_371 (4) (by omega) (by omega) (by omega) dX4_isSame_381 (fun f_381 H locs e_381 hP hD hS => ?_)
              rw [va_uu] at hP hD
              have hP : va_P D vwCl (((clsW cI cZ ad cx) ++ [(t0, .inr (4, [.ref lw, .ref rk, .ref hs, .ref em, .int mt, .int qn]))]) ++ va_pl (L2_324 ++ [n_330]) (va_up f2_324 n_330 (.inl (cI, 5, .inl f_381)))) H := hP
              have hD : va_D A (((clsW cI cZ ad cx) ++ [(t0, .inr (4, [.ref lw, .ref rk, .ref hs, .ref em, .int mt, .int qn]))]) ++ va_pl (L2_324 ++ [n_330]) (va_up f2_324 n_330 (.inl (cI, 5, .inl f_381)))) := hD
              have htl : ∀ w : Nat, w < 5 → f_381 w = toV (aH Z e9) (aV Z e9) (bkA (aV Z e9) (aL Z 0) (aL Z 1) (aH Z e9)) (aM Z e9) (aK Z e9) ↑w := by
                intro w hw9
                rcases (show w = 0 ∨ w = 1 ∨ w = 2 ∨ w = 3 ∨ w = 4 by omega) with rfl | rfl | rfl | rfl | rfl
                · rw [e_381, upd_n _ _ (by omega), e_369, upd_n _ _ (by omega), e_357, upd_n _ _ (by omega), e_350, upd_n _ _ (by omega), e_343, upd_s]
                  exact ((e_342.trans ea4).trans (toV_n.1 rfl).symm)
                · rw [e_381, upd_n _ _ (by omega), e_369, upd_n _ _ (by omega), e_357, upd_n _ _ (by omega), e_350, upd_s]
                  exact ((e_349.trans hwa.1).trans (toV_n.2.1 rfl).symm)
                · rw [e_381, upd_n _ _ (by omega), e_369, upd_n _ _ (by omega), e_357, upd_s]
                  exact ((e_356.trans hwa.2).trans (toV_n.2.2.1 rfl).symm)
                · rw [e_381, upd_n _ _ (by omega), e_369, upd_s]
                  exact ((e_368.trans ea5).trans (toV_n.2.2.2.1 rfl).symm)
                · rw [e_381, upd_s]
                  exact ((e_380.trans ea6).trans (toV_n.2.2.2.2 rfl).symm)
              refine lv_astore (lv' := [(6, .ref n_330), (5, .ref x_324), (4, .int ee), (3, .int li), (2, .int su), (0, .ref t0), (1, .ref (ad 0))]) hx hb dX4_isSame_382 hl (by decide) rfl (fun ls hl => ?_)
              refine lz_iconst hx hb dX4_isSame_384 (fun x_384 v_384 => ?_)
              refine lv_istore (lv' := [(7, .int x_384), (6, .ref n_330), (5, .ref x_324), (4, .int ee), (3, .int li), (2, .int su), (0, .ref t0), (1, .ref (ad 0))]) hx hb dX4_isSame_385 hl (by decide) rfl (fun ls hl => ?_)
              have key387 : ∀ (fu : Nat) (w9 : Nat) (ww : Int32) (H : Heap) (locs : List Loc) (ls : Array Slot), 6 - w9 < fu → (ww = iI (↑w9)) → (w9 ≤ 5) → va_P D vwCl (((clsW cI cZ ad cx) ++ [(t0, .inr (4, [.ref lw, .ref rk, .ref hs, .ref em, .int mt, .int qn]))]) ++ va_pl (L2_324 ++ [n_330]) (va_up f2_324 n_330 (.inl (cI, 5, .inl f_381)))) H → va_D A (((clsW cI cZ ad cx) ++ [(t0, .inr (4, [.ref lw, .ref rk, .ref hs, .ref em, .int mt, .int qn]))]) ++ va_pl (L2_324 ++ [n_330]) (va_up f2_324 n_330 (.inl (cI, 5, .inl f_381)))) → va_S A s.heap H locs → lv_has ls 13 [(7, .int ww), (6, .ref n_330), (5, .ref x_324), (4, .int ee), (3, .int li), (2, .int su), (0, .ref t0), (1, .ref (ad 0))] → W p l e (headSpec (ws_ yX4_isSame cX4_isSame 13 (Option.some .boolean)) ({ frames := 7, cells := 327, slots := 7177, locals := 106 })).room s m ([.ref t0, .ref (ad 0)] : List Value).toArray below meth c H locs (((246 + 2 * e9) + 1) + 1) (((6892 + 7 * e9) + 2) + 5) (MQD lw_cs below (va_Qi (fun r (u : List Nat × (Nat → va_E)) => (r = iI (1))) (fun (u : List Nat × (Nat → va_E)) t => wPost D A (((clsW cI cZ ad cx) ++ [(t0, .inr (4, [.ref lw, .ref rk, .ref hs, .ref em, .int mt, .int qn]))]) ++ va_pl u.1 u.2) t) A) ([.ref t0, .ref (ad 0)] : List Value).toArray s 327 7177 A) (F0 m 387 ls []) := by
                intro fu
                induction fu with
                | zero => intros; omega
                | succ fu ih387 =>
                  intro w9 ww H locs ls hfu hiw hlw9 hP hD hS hl
                  refine lv_iload hx hb dX4_isSame_387 (lv_at hl 0 rfl) ?_
                  refine lz_iconst hx hb dX4_isSame_389 (fun x_389 v_389 => ?_)
                  refine lz_icmp_ge (tgt := 417) hx hb hiw v_389 ⟨by omega, by omega⟩ dX4_isSame_390 (by decide) (fun c_390 => ?_) (fun c_390 => ?_)
                  · refine lz_iinc (lv2 := fun z => [(4, .int z), (7, .int ww), (6, .ref n_330), (5, .ref x_324), (3, .int li), (2, .int su), (0, .ref t0), (1, .ref (ad 0))]) hx hb dX4_isSame_417 hl (k := 3) rfl hie (by decide) (fun _ => rfl) (fun x_417 ls v_417 hl => ?_)
                    refine lv_goto (tgt := 311) hx hb dX4_isSame_420 (by decide) ?_
                    refine W.widen (k := (246 + 2 * (e9 + 1))) (n := (6892 + 7 * (e9 + 1))) (by omega) (by omega) ?_
                    exact ih311 (e9 + 1) x_417 (L2_324 ++ [n_330]) (va_up f2_324 n_330 (.inl (cI, 5, .inl f_381))) _ _ _ (by omega) (v_417.trans (congrArg iI (by omega))) (by omega) (SimP.ext hSP4 (pExt.new hq_330)) hP hD hS (lv_sub hl [0, 4, 5, 6, 7] rfl)
                  · refine lv_aload_n hx hb dX4_isSame_393 rfl (lv_at hl 7 rfl) ?_
                    refine lv_iload hx hb dX4_isSame_394 (lv_at hl 3 rfl) ?_
                    refine lv_iload hx hb dX4_isSame_396 (lv_at hl 0 rfl) ?_
                    refine cr_i (va_runV (As := [.int ee, .int ww]) (rest := []) ⟨hx, hb, hml, hown, hts⟩ (k_X3_told_P l D cI cZ cJ cK _ ee ww ad Z cx e9 (↑w9) hC hI (hie.trans (congrArg iI (by omega))) (by omega) (hiw.trans (congrArg iI (by omega))) (by omega)) (cwV 2 hts (gV qw503 qw370 qw371 qw10 qw372) rfl rfl rfl (by decide +kernel) ⟨Nat.le_of_ble_eq_true rfl, Nat.le_of_ble_eq_true rfl⟩) (pvP (ci := 3) (r := (RX3, TX3, 5)) (q0 := 0) (wr := ([(t0, .inr (4, [.ref lw, .ref rk, .ref hs, .ref em, .int mt, .int qn]))] ++ va_pl (L2_324 ++ [n_330]) (va_up f2_324 n_330 (.inl (cI, 5, .inl f_381))))) hP hD hK hT hZ hS (pm_2 _ _ _) rfl rfl) rfl rfl hl.1 rfl (lv_room (Nat.le_of_ble_eq_true rfl)) dX4_isSame_398 ⟨(by show (((246 + 2 * e9) + 1) + 1) ≤ 327; omega), (by show (((6892 + 7 * e9) + 2) + 5) ≤ 7177; omega)⟩) hS hP (fun x_398 H locs hw_398 hP hS => ?_)
                    replace hw_398 : (x_398 = toV (aH Z e9) (aV Z e9) (bkA (aV Z e9) (aL Z 0) (aL Z 1) (aH Z e9)) (aM Z e9) (aK Z e9) (↑w9)) := hw_398
                    have v_398 := hw_398
                    refine lv_aload hx hb dX4_isSame_401 (lv_at hl 1 rfl) ?_
                    refine lv_iload hx hb dX4_isSame_403 (lv_at hl 0 rfl) ?_
                    refine rd_iald hx hb hK hP 0 (pl_mem (List.mem_append_right _ List.mem_cons_self) (va_up_self _ _ _)) rfl hiw (w9) (by omega) (by omega) (by omega) dX4_isSame_405 (fun x_405 e_405 => ?_)
                    refine lv_icmp_eq (tgt := 411) hx hb dX4_isSame_406 (by decide) (fun c_406 => ?_) (fun c_406 => ?_)
                    · refine lz_iinc (lv2 := fun z => [(7, .int z), (6, .ref n_330), (5, .ref x_324), (4, .int ee), (3, .int li), (2, .int su), (0, .ref t0), (1, .ref (ad 0))]) hx hb dX4_isSame_411 hl (k := 0) rfl hiw (by decide) (fun _ => rfl) (fun x_411 ls v_411 hl => ?_)
                      refine lv_goto (tgt := 387) hx hb dX4_isSame_414 (by decide) ?_
                      exact ih387 (w9 + 1) x_411 _ _ _ (by omega) (v_411.trans (congrArg iI (by omega))) (by omega) hP hD hS (lv_sub hl [0, 1, 2, 3, 4, 5, 6, 7] rfl)
                    · exfalso; exact absurd (v_398.trans ((htl w9 (by omega)).symm.trans e_405.symm)) c_406
              exact key387 _ 0 x_384 _ _ _ (Nat.lt_succ_self _) (v_384.trans (congrArg iI (by omega))) (by omega) hP hD hS (lv_sub hl [0, 1, 2, 3, 4, 5, 6, 7] rfl)
        refine W.widen (k := (246 + 2 * 0)) (n := (6892 + 7 * 0)) (by omega) (by omega) ?_
        exact key311 _ 0 x_308 Li fi _ _ _ (Nat.lt_succ_self _) (v_308.trans (congrArg iI (by omega))) (by omega) (hSPi) hP hD hS (lv_sub hl [0, 1, 2, 3, 4] rfl)
      · have hh2 : a9 < 2 := by omega
        obtain ⟨m1, m2, m3⟩ := AI_len hI hh2
        have m4 := hI.1
        have hc11 : (catR (rwA Z a9) 11).length = (aR Z a9).length := by rw [rw_all hI hh2]
        refine lz_iconst hx hb dX4_isSame_13 (fun x_13 v_13 => ?_)
        refine lv_istore (lv' := [(5, .int x_13), (4, .int aa), (3, .int li), (2, .int su), (0, .ref t0), (1, .ref (ad 0))]) hx hb dX4_isSame_14 hl (by decide) rfl (fun ls hl => ?_)
        refine lz_iconst hx hb dX4_isSame_16 (fun x_16 v_16 => ?_)
        refine lv_istore (lv' := [(6, .int x_16), (5, .int x_13), (4, .int aa), (3, .int li), (2, .int su), (0, .ref t0), (1, .ref (ad 0))]) hx hb dX4_isSame_17 hl (by decide) rfl (fun ls hl => ?_)
        refine lz_iconst hx hb dX4_isSame_19 (fun x_19 v_19 => ?_)
        refine lv_istore (lv' := [(7, .int x_19), (6, .int x_16), (5, .int x_13), (4, .int aa), (3, .int li), (2, .int su), (0, .ref t0), (1, .ref (ad 0))]) hx hb dX4_isSame_20 hl (by decide) rfl (fun ls hl => ?_)
        refine lz_iconst hx hb dX4_isSame_22 (fun x_22 v_22 => ?_)
        refine lv_istore (lv' := [(8, .int x_22), (7, .int x_19), (6, .int x_16), (5, .int x_13), (4, .int aa), (3, .int li), (2, .int su), (0, .ref t0), (1, .ref (ad 0))]) hx hb dX4_isSame_23 hl (by decide) rfl (fun ls hl => ?_)
        have key25 : ∀ (fu : Nat) (b9 : Nat) (bb : Int32) (fv : Int) (ff : Int32) (lv : Int) (ll : Int32) (H : Heap) (locs : List Loc) (ls : Array Slot), 12 - b9 < fu → (bb = iI (↑b9)) → (b9 ≤ 11) → (ff = iI (fv)) → (fsP (fun b => (rwA Z a9 b).length) b9 fv) → (ll = iI (lv)) → (lsP (fun b => (rwA Z a9 b).length) b9 lv) → va_P D vwCl (((clsW cI cZ ad cx) ++ [(t0, .inr (4, [.ref lw, .ref rk, .ref hs, .ref em, .int mt, .int qn]))]) ++ va_pl Li fi) H → va_D A (((clsW cI cZ ad cx) ++ [(t0, .inr (4, [.ref lw, .ref rk, .ref hs, .ref em, .int mt, .int qn]))]) ++ va_pl Li fi) → va_S A s.heap H locs → lv_has ls 13 [(8, .int bb), (7, .int x_19), (6, .int ll), (5, .int ff), (4, .int aa), (3, .int li), (2, .int su), (0, .ref t0), (1, .ref (ad 0))] → W p l e (headSpec (ws_ yX4_isSame cX4_isSame 13 (Option.some .boolean)) ({ frames := 7, cells := 327, slots := 7177, locals := 106 })).room s m ([.ref t0, .ref (ad 0)] : List Value).toArray below meth c H locs (123 * a9 + (catR (rwA Z a9) b9).length) (3446 * a9 + 6 * (catR (rwA Z a9) b9).length) (MQD lw_cs below (va_Qi (fun r (u : List Nat × (Nat → va_E)) => (r = iI (1))) (fun (u : List Nat × (Nat → va_E)) t => wPost D A (((clsW cI cZ ad cx) ++ [(t0, .inr (4, [.ref lw, .ref rk, .ref hs, .ref em, .int mt, .int qn]))]) ++ va_pl u.1 u.2) t) A) ([.ref t0, .ref (ad 0)] : List Value).toArray s 327 7177 A) (F0 m 25 ls []) := by
          intro fu
          induction fu with
          | zero => intros; omega
          | succ fu ih25 =>
            intro b9 bb fv ff lv ll H locs ls hfu hib hlb hff hfs hll hls hP hD hS hl
            refine lv_iload hx hb dX4_isSame_25 (lv_at hl 0 rfl) ?_
            refine lz_bipush hx hb (by decide) dX4_isSame_27 (fun x_27 v_27 => ?_)
            refine lz_icmp_ge (tgt := 130) hx hb hib v_27 ⟨by omega, by omega⟩ dX4_isSame_29 (by decide) (fun c_29 => ?_) (fun c_29 => ?_)
            · have hcm := catR_mono (rwA Z a9) (show b9 ≤ 11 by omega)
              have hfe := fst_eq hI hh2 (show b9 = 11 by omega) hfs
              have hle9 := lst_eq hI hh2 (show b9 = 11 by omega) hls
              refine lv_aload_n hx hb dX4_isSame_130 rfl (lv_at hl 7 rfl) ?_
              refine lv_iload hx hb dX4_isSame_131 (lv_at hl 4 rfl) ?_
              refine cp_r (wr := (clsW cI cZ ad cx)) (ws2 := fun u9 => (((clsW cI cZ ad cx) ++ [(t0, .inr (4, [.ref lw, .ref rk, .ref hs, .ref em, .int mt, .int qn]))]) ++ va_pl u9.1 u9.2)) (va_runV (As := [.int aa]) (rest := []) ⟨hx, hb, hml, hown, hts⟩ (k_X4_all l D cI cZ cJ cK _ t0 aa lw rk hs em mt qn Li fi a9 (aN Z) (aH Z) (aM Z) (aK Z) (aL Z) (aG Z) (rwA Z) (hSPi) (hia.trans (congrArg iI (by omega))) (by omega) (by rw [rw_all hI hh2]; omega)) (cwV 1 hts (gV qw488 qw489 qw490 qw14 qw491) rfl rfl rfl (by decide +kernel) ⟨Nat.le_of_ble_eq_true rfl, Nat.le_of_ble_eq_true rfl⟩) (pvP (ci := 4) (r := (RX4, TX4, 6)) (q0 := 24) (wr := (clsW cI cZ ad cx)) hP hD hK hT hZ hS (pm_1 _ _ _) rfl rfl) rfl rfl hl.1 rfl (lv_room (Nat.le_of_ble_eq_true rfl)) dX4_isSame_133 ⟨(by show ((123 * a9 + (catR (rwA Z a9) b9).length) + 41) ≤ 327; omega), (by show ((3446 * a9 + 6 * (catR (rwA Z a9) b9).length) + 1600) ≤ 7177; omega)⟩) hS hP hD hA (pm_1 _ _ _) (fun _ => (pm_1 _ _ _).symm) (fun x_133 u_133 H locs hw_133 hP hD hS => ?_)
              obtain ⟨L2_133, f2_133⟩ := u_133
              have hP : va_P D vwCl (((clsW cI cZ ad cx) ++ [(t0, .inr (4, [.ref lw, .ref rk, .ref hs, .ref em, .int mt, .int qn]))]) ++ va_pl L2_133 f2_133) H := hP
              have hD : va_D A (((clsW cI cZ ad cx) ++ [(t0, .inr (4, [.ref lw, .ref rk, .ref hs, .ref em, .int mt, .int qn]))]) ++ va_pl L2_133 f2_133) := hD
              replace hw_133 : (pExt Li fi L2_133 f2_133) ∧ (x_133 ∈ L2_133) ∧ (x_133 ∉ Li) ∧ (rowE cI (catR ((rwA Z) a9) 11) (f2_133 x_133)) := hw_133
              obtain ⟨e_133, i_133, o_133, v_133⟩ := hw_133
              rw [rw_all hI hh2] at v_133
              have hSP2 := SimP.ext hSPi e_133
              obtain ⟨ga, hfa, hga⟩ := id v_133
              clear qS
              obtain ⟨K, ha, ea, rr, qS⟩ := id hSP2
              obtain ⟨⟨lw1, lw2, gl, lw3, lw4⟩, ⟨rk1, rk2, gg, rk3, rk4⟩, ⟨hs1, hs2, gs, hs3, hs4⟩, ⟨em1, em2, ge, em3, em4⟩, q5, q6, q7⟩ := id qS
              refine lv_astore (lv' := [(8, .ref x_133), (7, .int x_19), (6, .int ll), (5, .int ff), (4, .int aa), (3, .int li), (2, .int su), (0, .ref t0), (1, .ref (ad 0))]) hx hb dX4_isSame_136 hl (by decide) rfl (fun ls hl => ?_)
              refine lv_aload hx hb dX4_isSame_138 (lv_at hl 0 rfl) ?_
              refine lv_astore (lv' := [(9, .ref x_133), (8, .ref x_133), (7, .int x_19), (6, .int ll), (5, .int ff), (4, .int aa), (3, .int li), (2, .int su), (0, .ref t0), (1, .ref (ad 0))]) hx hb dX4_isSame_140 hl (by decide) rfl (fun ls hl => ?_)
              refine lv_aload hx hb dX4_isSame_142 (lv_at hl 0 rfl) ?_
              refine rd_alen hx hb hK hP 0 (pl_mem i_133 hfa) rfl dX4_isSame_144 (fun x_144 v_144 => ?_)
              have v_144 : x_144 = iI (↑((aR Z a9).length)) := v_144
              refine lv_istore (lv' := [(10, .int x_144), (9, .ref x_133), (8, .ref x_133), (7, .int x_19), (6, .int ll), (5, .int ff), (4, .int aa), (3, .int li), (2, .int su), (0, .ref t0), (1, .ref (ad 0))]) hx hb dX4_isSame_145 hl (by decide) rfl (fun ls hl => ?_)
              refine lz_iconst hx hb dX4_isSame_147 (fun x_147 v_147 => ?_)
              refine lv_istore (lv' := [(11, .int x_147), (10, .int x_144), (9, .ref x_133), (8, .ref x_133), (7, .int x_19), (6, .int ll), (5, .int ff), (4, .int aa), (3, .int li), (2, .int su), (0, .ref t0), (1, .ref (ad 0))]) hx hb dX4_isSame_148 hl (by decide) rfl (fun ls hl => ?_)
              have key150 : ∀ (fu : Nat) (i : Nat) (ii : Int32) (su2 : Int32) (mo : Int32) (H : Heap) (locs : List Loc) (ls : Array Slot), (aR Z a9).length + 1 - i < fu → (ii = iI (↑i)) → (i ≤ (aR Z a9).length) → (su2 = iI (↑(sH Z a9 + sumL (aH Z) ((aR Z a9).take i)))) → (mo = iI (maxL (aH Z) ((aR Z a9).take i))) → va_P D vwCl (((clsW cI cZ ad cx) ++ [(t0, .inr (4, [.ref lw, .ref rk, .ref hs, .ref em, .int mt, .int qn]))]) ++ va_pl L2_133 f2_133) H → va_D A (((clsW cI cZ ad cx) ++ [(t0, .inr (4, [.ref lw, .ref rk, .ref hs, .ref em, .int mt, .int qn]))]) ++ va_pl L2_133 f2_133) → va_S A s.heap H locs → lv_has ls 13 [(11, .int ii), (10, .int x_144), (9, .ref x_133), (8, .ref x_133), (7, .int mo), (6, .int ll), (5, .int ff), (4, .int aa), (3, .int li), (2, .int su2), (0, .ref t0), (1, .ref (ad 0))] → W p l e (headSpec (ws_ yX4_isSame cX4_isSame 13 (Option.some .boolean)) ({ frames := 7, cells := 327, slots := 7177, locals := 106 })).room s m ([.ref t0, .ref (ad 0)] : List Value).toArray below meth c H locs ((123 * a9 + (catR (rwA Z a9) b9).length) + 41) ((3446 * a9 + 6 * (catR (rwA Z a9) b9).length) + 1600) (MQD lw_cs below (va_Qi (fun r (u : List Nat × (Nat → va_E)) => (r = iI (1))) (fun (u : List Nat × (Nat → va_E)) t => wPost D A (((clsW cI cZ ad cx) ++ [(t0, .inr (4, [.ref lw, .ref rk, .ref hs, .ref em, .int mt, .int qn]))]) ++ va_pl u.1 u.2) t) A) ([.ref t0, .ref (ad 0)] : List Value).toArray s 327 7177 A) (F0 m 150 ls []) := by
                intro fu
                induction fu with
                | zero => intros; omega
                | succ fu ih150 =>
                  intro i ii su2 mo H locs ls hfu hi hile hs2 hmo hP hD hS hl
                  refine lv_iload hx hb dX4_isSame_150 (lv_at hl 0 rfl) ?_
                  refine lv_iload hx hb dX4_isSame_152 (lv_at hl 1 rfl) ?_
                  refine lz_icmp_ge (tgt := 198) hx hb hi v_144 ⟨by omega, by omega⟩ dX4_isSame_154 (by decide) (fun c_154 => ?_) (fun c_154 => ?_)
                  · refine lv_iload_n hx hb dX4_isSame_198 rfl (lv_at hl 8 rfl) ?_
                    refine lv_aload hx hb dX4_isSame_199 (lv_at hl 3 rfl) ?_
                    refine rd_alen hx hb hK hP 0 (pl_mem i_133 hfa) rfl dX4_isSame_201 (fun x_201 v_201 => ?_)
                    have v_201 : x_201 = iI (↑((aR Z a9).length)) := v_201
                    refine lz_iadd hx hb hli v_201 dX4_isSame_202 (fun x_202 v_202 => ?_)
                    refine lv_istore_n (lv' := [(3, .int x_202), (11, .int ii), (10, .int x_144), (9, .ref x_133), (8, .ref x_133), (7, .int mo), (6, .int ll), (5, .int ff), (4, .int aa), (2, .int su2), (0, .ref t0), (1, .ref (ad 0))]) hx hb dX4_isSame_203 rfl hl (by decide) rfl (fun ls hl => ?_)
                    refine lz_bipush hx hb (by decide) dX4_isSame_204 (fun x_204 v_204 => ?_)
                    refine pl_new hx hb (hts _ qw53) 0 rfl hK hP hD hS hA v_204 (6) (by omega) (by omega) (by show ((123 * a9 + (catR (rwA Z a9) b9).length) + 41) + 1 ≤ 327; omega) (by show ((3446 * a9 + 6 * (catR (rwA Z a9) b9).length) + 1600) + 6 ≤ 7177; omega) dX4_isSame_206 (fun n_206 H hq_206 hP hD hS => ?_)
                    have hP : va_P D vwCl (((clsW cI cZ ad cx) ++ [(t0, .inr (4, [.ref lw, .ref rk, .ref hs, .ref em, .int mt, .int qn]))]) ++ va_pl (L2_133 ++ [n_206]) (va_up f2_133 n_206 (.inl (cI, 6, .inl (fun _ => 0))))) H := hP
                    have hD : va_D A (((clsW cI cZ ad cx) ++ [(t0, .inr (4, [.ref lw, .ref rk, .ref hs, .ref em, .int mt, .int qn]))]) ++ va_pl (L2_133 ++ [n_206]) (va_up f2_133 n_206 (.inl (cI, 6, .inl (fun _ => 0))))) := hD
                    have hn_lw_n_206 : lw ≠ n_206 := fun z => hq_206 (by rw [← z]; exact lw1)
                    have hn_em_n_206 : em ≠ n_206 := fun z => hq_206 (by rw [← z]; exact em1)
                    have hn_hs_n_206 : hs ≠ n_206 := fun z => hq_206 (by rw [← z]; exact hs1)
                    have hn_rk_n_206 : rk ≠ n_206 := fun z => hq_206 (by rw [← z]; exact rk1)
                    have hn_x_133_n_206 : x_133 ≠ n_206 := fun z => hq_206 (by rw [← z]; exact i_133)
                    refine lv_dup hx hb dX4_isSame_208 rfl ?_
                    refine lz_iconst hx hb dX4_isSame_209 (fun x_209 v_209 => ?_)
                    refine lv_aload hx hb dX4_isSame_210 (lv_at hl 4 rfl) ?_
                    refine rd_alen hx hb hK hP 0 (pl_mem (List.mem_append_left _ i_133) ((va_up_ne _ _ hn_x_133_n_206).trans hfa)) rfl dX4_isSame_212 (fun x_212 v_212 => ?_)
                    have v_212 : x_212 = iI (↑((aR Z a9).length)) := v_212
                    refine pl_iast hx hb hK hP hD hS 0 (List.mem_append_right _ List.mem_cons_self) (va_up_self _ _ _) rfl v_209 (0) (by omega) (by omega) (by omega) dX4_isSame_213 (fun f_213 H locs e_213 hP hD hS => ?_)
                    rw [va_uu] at hP hD
                    have hP : va_P D vwCl (((clsW cI cZ ad cx) ++ [(t0, .inr (4, [.ref lw, .ref rk, .ref hs, .ref em, .int mt, .int qn]))]) ++ va_pl (L2_133 ++ [n_206]) (va_up f2_133 n_206 (.inl (cI, 6, .inl f_213)))) H := hP
                    have hD : va_D A (((clsW cI cZ ad cx) ++ [(t0, .inr (4, [.ref lw, .ref rk, .ref hs, .ref em, .int mt, .int qn]))]) ++ va_pl (L2_133 ++ [n_206]) (va_up f2_133 n_206 (.inl (cI, 6, .inl f_213)))) := hD
                    refine lv_dup hx hb dX4_isSame_214 rfl ?_
                    refine lz_iconst hx hb dX4_isSame_215 (fun x_215 v_215 => ?_)
                    refine lv_aload_n hx hb dX4_isSame_216 rfl (lv_at hl 10 rfl) ?_
                    refine va_get (D := D) (ci := 4) (v := .ref lw) (C := RX4) (T := TX4) (N := 6) hx hb hts iX4 hown hK hP 24 rfl rfl 0 (by decide) (hts _ qw616) (fun _ h9 => h9) rfl dX4_isSame_217 ?_
                    refine lv_iload hx hb dX4_isSame_220 (lv_at hl 8 rfl) ?_
                    refine rd_iald hx hb hK hP 0 (pl_mem (List.mem_append_left _ lw1) ((va_up_ne _ _ hn_lw_n_206).trans lw3)) rfl hia (a9) (by omega) (by omega) (by omega) dX4_isSame_222 (fun x_222 e_222 => ?_)
                    refine pl_iast hx hb hK hP hD hS 0 (List.mem_append_right _ List.mem_cons_self) (va_up_self _ _ _) rfl v_215 (1) (by omega) (by omega) (by omega) dX4_isSame_223 (fun f_223 H locs e_223 hP hD hS => ?_)
                    rw [va_uu] at hP hD
                    have hP : va_P D vwCl (((clsW cI cZ ad cx) ++ [(t0, .inr (4, [.ref lw, .ref rk, .ref hs, .ref em, .int mt, .int qn]))]) ++ va_pl (L2_133 ++ [n_206]) (va_up f2_133 n_206 (.inl (cI, 6, .inl f_223)))) H := hP
                    have hD : va_D A (((clsW cI cZ ad cx) ++ [(t0, .inr (4, [.ref lw, .ref rk, .ref hs, .ref em, .int mt, .int qn]))]) ++ va_pl (L2_133 ++ [n_206]) (va_up f2_133 n_206 (.inl (cI, 6, .inl f_223)))) := hD
                    refine lv_dup hx hb dX4_isSame_224 rfl ?_
                    refine lz_iconst hx hb dX4_isSame_225 (fun x_225 v_225 => ?_)
                    refine lv_iload hx hb dX4_isSame_226 (lv_at hl 7 rfl) ?_
                    refine pl_iast hx hb hK hP hD hS 0 (List.mem_append_right _ List.mem_cons_self) (va_up_self _ _ _) rfl v_225 (2) (by omega) (by omega) (by omega) dX4_isSame_228 (fun f_228 H locs e_228 hP hD hS => ?_)
                    rw [va_uu] at hP hD
                    have hP : va_P D vwCl (((clsW cI cZ ad cx) ++ [(t0, .inr (4, [.ref lw, .ref rk, .ref hs, .ref em, .int mt, .int qn]))]) ++ va_pl (L2_133 ++ [n_206]) (va_up f2_133 n_206 (.inl (cI, 6, .inl f_228)))) H := hP
                    have hD : va_D A (((clsW cI cZ ad cx) ++ [(t0, .inr (4, [.ref lw, .ref rk, .ref hs, .ref em, .int mt, .int qn]))]) ++ va_pl (L2_133 ++ [n_206]) (va_up f2_133 n_206 (.inl (cI, 6, .inl f_228)))) := hD
                    refine lv_dup hx hb dX4_isSame_229 rfl ?_
                    refine lz_iconst hx hb dX4_isSame_230 (fun x_230 v_230 => ?_)
                    refine lv_iload hx hb dX4_isSame_231 (lv_at hl 6 rfl) ?_
                    refine pl_iast hx hb hK hP hD hS 0 (List.mem_append_right _ List.mem_cons_self) (va_up_self _ _ _) rfl v_230 (3) (by omega) (by omega) (by omega) dX4_isSame_233 (fun f_233 H locs e_233 hP hD hS => ?_)
                    rw [va_uu] at hP hD
                    have hP : va_P D vwCl (((clsW cI cZ ad cx) ++ [(t0, .inr (4, [.ref lw, .ref rk, .ref hs, .ref em, .int mt, .int qn]))]) ++ va_pl (L2_133 ++ [n_206]) (va_up f2_133 n_206 (.inl (cI, 6, .inl f_233)))) H := hP
                    have hD : va_D A (((clsW cI cZ ad cx) ++ [(t0, .inr (4, [.ref lw, .ref rk, .ref hs, .ref em, .int mt, .int qn]))]) ++ va_pl (L2_133 ++ [n_206]) (va_up f2_133 n_206 (.inl (cI, 6, .inl f_233)))) := hD
                    refine lv_dup hx hb dX4_isSame_234 rfl ?_
                    refine lz_iconst hx hb dX4_isSame_235 (fun x_235 v_235 => ?_)
                    refine lv_aload_n hx hb dX4_isSame_236 rfl (lv_at hl 10 rfl) ?_
                    refine va_get (D := D) (ci := 4) (v := .ref rk) (C := RX4) (T := TX4) (N := 6) hx hb hts iX4 hown hK hP 24 rfl rfl 1 (by decide) (hts _ qw618) (fun _ h9 => h9) rfl dX4_isSame_237 ?_
                    refine lv_iload hx hb dX4_isSame_240 (lv_at hl 8 rfl) ?_
                    refine rd_iald hx hb hK hP 0 (pl_mem (List.mem_append_left _ rk1) ((va_up_ne _ _ hn_rk_n_206).trans rk3)) rfl hia (a9) (by omega) (by omega) (by omega) dX4_isSame_242 (fun x_242 e_242 => ?_)
                    refine pl_iast hx hb hK hP hD hS 0 (List.mem_append_right _ List.mem_cons_self) (va_up_self _ _ _) rfl v_235 (4) (by omega) (by omega) (by omega) dX4_isSame_243 (fun f_243 H locs e_243 hP hD hS => ?_)
                    rw [va_uu] at hP hD
                    have hP : va_P D vwCl (((clsW cI cZ ad cx) ++ [(t0, .inr (4, [.ref lw, .ref rk, .ref hs, .ref em, .int mt, .int qn]))]) ++ va_pl (L2_133 ++ [n_206]) (va_up f2_133 n_206 (.inl (cI, 6, .inl f_243)))) H := hP
                    have hD : va_D A (((clsW cI cZ ad cx) ++ [(t0, .inr (4, [.ref lw, .ref rk, .ref hs, .ref em, .int mt, .int qn]))]) ++ va_pl (L2_133 ++ [n_206]) (va_up f2_133 n_206 (.inl (cI, 6, .inl f_243)))) := hD
                    refine lv_dup hx hb dX4_isSame_244 rfl ?_
                    refine lz_iconst hx hb dX4_isSame_245 (fun x_245 v_245 => ?_)
                    refine lv_iload hx hb dX4_isSame_246 (lv_at hl 5 rfl) ?_
                    refine pl_iast hx hb hK hP hD hS 0 (List.mem_append_right _ List.mem_cons_self) (va_up_self _ _ _) rfl v_245 (5) (by omega) (by omega) (by omega) dX4_isSame_248 (fun f_248 H locs e_248 hP hD hS => ?_)
                    rw [va_uu] at hP hD
                    have hP : va_P D vwCl (((clsW cI cZ ad cx) ++ [(t0, .inr (4, [.ref lw, .ref rk, .ref hs, .ref em, .int mt, .int qn]))]) ++ va_pl (L2_133 ++ [n_206]) (va_up f2_133 n_206 (.inl (cI, 6, .inl f_248)))) H := hP
                    have hD : va_D A (((clsW cI cZ ad cx) ++ [(t0, .inr (4, [.ref lw, .ref rk, .ref hs, .ref em, .int mt, .int qn]))]) ++ va_pl (L2_133 ++ [n_206]) (va_up f2_133 n_206 (.inl (cI, 6, .inl f_248)))) := hD
                    have hab : ∀ w : Nat, w < 6 → f_248 w = abV (aL Z a9) (aH Z) (aR Z a9) (aG Z a9) ↑w := by
                      intro w hw9
                      rcases (show w = 0 ∨ w = 1 ∨ w = 2 ∨ w = 3 ∨ w = 4 ∨ w = 5 by omega) with rfl | rfl | rfl | rfl | rfl | rfl
                      · rw [e_248, upd_n _ _ (by omega), e_243, upd_n _ _ (by omega), e_233, upd_n _ _ (by omega), e_228, upd_n _ _ (by omega), e_223, upd_n _ _ (by omega), e_213, upd_s]
                        exact (v_212.trans (abV_n.1 rfl).symm)
                      · rw [e_248, upd_n _ _ (by omega), e_243, upd_n _ _ (by omega), e_233, upd_n _ _ (by omega), e_228, upd_n _ _ (by omega), e_223, upd_s]
                        exact ((e_222.trans (lw4 a9 (by omega))).trans (abV_n.2.1 rfl).symm)
                      · rw [e_248, upd_n _ _ (by omega), e_243, upd_n _ _ (by omega), e_233, upd_n _ _ (by omega), e_228, upd_s]
                        exact ((hff.trans (congrArg iI hfe)).trans (abV_n.2.2.1 rfl).symm)
                      · rw [e_248, upd_n _ _ (by omega), e_243, upd_n _ _ (by omega), e_233, upd_s]
                        exact ((hll.trans (congrArg iI hle9)).trans (abV_n.2.2.2.1 rfl).symm)
                      · rw [e_248, upd_n _ _ (by omega), e_243, upd_s]
                        exact ((e_242.trans (rk4 a9 (by omega))).trans (abV_n.2.2.2.2.1 rfl).symm)
                      · rw [e_248, upd_s]
                        exact ((hmo.trans (by rw [take_all (show (aR Z a9).length ≤ i by omega)])).trans (abV_n.2.2.2.2.2 rfl).symm)
                    refine lv_astore (lv' := [(9, .ref n_206), (3, .int x_202), (11, .int ii), (10, .int x_144), (8, .ref x_133), (7, .int mo), (6, .int ll), (5, .int ff), (4, .int aa), (2, .int su2), (0, .ref t0), (1, .ref (ad 0))]) hx hb dX4_isSame_249 hl (by decide) rfl (fun ls hl => ?_)
                    refine lz_iconst hx hb dX4_isSame_251 (fun x_251 v_251 => ?_)
                    refine lv_istore (lv' := [(10, .int x_251), (9, .ref n_206), (3, .int x_202), (11, .int ii), (8, .ref x_133), (7, .int mo), (6, .int ll), (5, .int ff), (4, .int aa), (2, .int su2), (0, .ref t0), (1, .ref (ad 0))]) hx hb dX4_isSame_252 hl (by decide) rfl (fun ls hl => ?_)
                    have key254 : ∀ (fu : Nat) (w9 : Nat) (ww : Int32) (H : Heap) (locs : List Loc) (ls : Array Slot), 7 - w9 < fu → (ww = iI (↑w9)) → (w9 ≤ 6) → va_P D vwCl (((clsW cI cZ ad cx) ++ [(t0, .inr (4, [.ref lw, .ref rk, .ref hs, .ref em, .int mt, .int qn]))]) ++ va_pl (L2_133 ++ [n_206]) (va_up f2_133 n_206 (.inl (cI, 6, .inl f_248)))) H → va_D A (((clsW cI cZ ad cx) ++ [(t0, .inr (4, [.ref lw, .ref rk, .ref hs, .ref em, .int mt, .int qn]))]) ++ va_pl (L2_133 ++ [n_206]) (va_up f2_133 n_206 (.inl (cI, 6, .inl f_248)))) → va_S A s.heap H locs → lv_has ls 13 [(10, .int ww), (9, .ref n_206), (3, .int x_202), (11, .int ii), (8, .ref x_133), (7, .int mo), (6, .int ll), (5, .int ff), (4, .int aa), (2, .int su2), (0, .ref t0), (1, .ref (ad 0))] → W p l e (headSpec (ws_ yX4_isSame cX4_isSame 13 (Option.some .boolean)) ({ frames := 7, cells := 327, slots := 7177, locals := 106 })).room s m ([.ref t0, .ref (ad 0)] : List Value).toArray below meth c H locs (((123 * a9 + (catR (rwA Z a9) b9).length) + 41) + 1) (((3446 * a9 + 6 * (catR (rwA Z a9) b9).length) + 1600) + 6) (MQD lw_cs below (va_Qi (fun r (u : List Nat × (Nat → va_E)) => (r = iI (1))) (fun (u : List Nat × (Nat → va_E)) t => wPost D A (((clsW cI cZ ad cx) ++ [(t0, .inr (4, [.ref lw, .ref rk, .ref hs, .ref em, .int mt, .int qn]))]) ++ va_pl u.1 u.2) t) A) ([.ref t0, .ref (ad 0)] : List Value).toArray s 327 7177 A) (F0 m 254 ls []) := by
                      intro fu
                      induction fu with
                      | zero => intros; omega
                      | succ fu ih254 =>
                        intro w9 ww H locs ls hfu hiw hlw9 hP hD hS hl
                        refine lv_iload hx hb dX4_isSame_254 (lv_at hl 0 rfl) ?_
                        refine lz_bipush hx hb (by decide) dX4_isSame_256 (fun x_256 v_256 => ?_)
                        refine lz_icmp_ge (tgt := 285) hx hb hiw v_256 ⟨by omega, by omega⟩ dX4_isSame_258 (by decide) (fun c_258 => ?_) (fun c_258 => ?_)
                        · have hSP3 := SimP.ext hSP2 (pExt.new (e := (.inl (cI, 6, .inl f_248))) hq_206)
                          refine lv_aload_n hx hb dX4_isSame_285 rfl (lv_at hl 11 rfl) ?_
                          refine lv_iload hx hb dX4_isSame_286 (lv_at hl 8 rfl) ?_
                          refine cr_i (va_runV (As := [.int aa]) (rest := []) ⟨hx, hb, hml, hown, hts⟩ (k_X3_highest_P l D cI cZ cJ cK _ aa ad Z cx a9 hC hI (hia.trans (congrArg iI (by omega))) (by omega)) (cwV 1 hts (gV qw494 qw434 qw435 qw10 qw436) rfl rfl rfl (by decide +kernel) ⟨Nat.le_of_ble_eq_true rfl, Nat.le_of_ble_eq_true rfl⟩) (pvP (ci := 3) (r := (RX3, TX3, 5)) (q0 := 0) (wr := ([(t0, .inr (4, [.ref lw, .ref rk, .ref hs, .ref em, .int mt, .int qn]))] ++ va_pl (L2_133 ++ [n_206]) (va_up f2_133 n_206 (.inl (cI, 6, .inl f_248))))) hP hD hK hT hZ hS (pm_2 _ _ _) rfl rfl) rfl rfl hl.1 rfl (lv_room (Nat.le_of_ble_eq_true rfl)) dX4_isSame_288 ⟨(by show (((123 * a9 + (catR (rwA Z a9) b9).length) + 41) + 1) ≤ 327; omega), (by show (((3446 * a9 + 6 * (catR (rwA Z a9) b9).length) + 1600) + 6) ≤ 7177; omega)⟩) hS hP (fun x_288 H locs hw_288 hP hS => ?_)
                          replace hw_288 : (x_288 = iI (↑(minL (aH Z) (aR Z a9)))) := hw_288
                          have v_288 := hw_288
                          refine lv_aload_n hx hb dX4_isSame_291 rfl (lv_at hl 10 rfl) ?_
                          refine lv_iload hx hb dX4_isSame_292 (lv_at hl 8 rfl) ?_
                          refine cp_i (wr := (clsW cI cZ ad cx)) (ws2 := fun u9 => (((clsW cI cZ ad cx) ++ [(t0, .inr (4, [.ref lw, .ref rk, .ref hs, .ref em, .int mt, .int qn]))]) ++ va_pl u9.1 u9.2)) (va_runV (As := [.int aa]) (rest := [.int x_288]) ⟨hx, hb, hml, hown, hts⟩ (k_X4_least l D cI cZ cJ cK _ t0 aa lw rk hs em mt qn (L2_133 ++ [n_206]) (va_up f2_133 n_206 (.inl (cI, 6, .inl f_248))) a9 (aN Z) (aH Z) (aM Z) (aK Z) (aL Z) (aG Z) (rwA Z) (hSP3) (hia.trans (congrArg iI (by omega))) (by omega) (by rw [rw_all hI hh2]; omega) (by rw [rw_all hI hh2]; exact m2) (m4) (fun e he => (hI.2.1 e he).1)) (cwV 1 hts (gV qw495 qw496 qw497 qw14 qw498) rfl rfl rfl (by decide +kernel) ⟨Nat.le_of_ble_eq_true rfl, Nat.le_of_ble_eq_true rfl⟩) (pvP (ci := 4) (r := (RX4, TX4, 6)) (q0 := 24) (wr := (clsW cI cZ ad cx)) hP hD hK hT hZ hS (pm_1 _ _ _) rfl rfl) rfl rfl hl.1 rfl (lv_room (Nat.le_of_ble_eq_true rfl)) dX4_isSame_294 ⟨(by show ((((123 * a9 + (catR (rwA Z a9) b9).length) + 41) + 1) + 41) ≤ 327; omega), (by show ((((3446 * a9 + 6 * (catR (rwA Z a9) b9).length) + 1600) + 6) + 1600) ≤ 7177; omega)⟩) hS hP hD hA (pm_1 _ _ _) (fun _ => (pm_1 _ _ _).symm) (fun x_294 u_294 H locs hw_294 hP hD hS => ?_)
                          obtain ⟨L2_294, f2_294⟩ := u_294
                          have hP : va_P D vwCl (((clsW cI cZ ad cx) ++ [(t0, .inr (4, [.ref lw, .ref rk, .ref hs, .ref em, .int mt, .int qn]))]) ++ va_pl L2_294 f2_294) H := hP
                          have hD : va_D A (((clsW cI cZ ad cx) ++ [(t0, .inr (4, [.ref lw, .ref rk, .ref hs, .ref em, .int mt, .int qn]))]) ++ va_pl L2_294 f2_294) := hD
                          replace hw_294 : (x_294 = iI (↑(minL (aH Z) (catR ((rwA Z) a9) 11)))) ∧ (pExt (L2_133 ++ [n_206]) (va_up f2_133 n_206 (.inl (cI, 6, .inl f_248))) L2_294 f2_294) := hw_294
                          obtain ⟨v_294, e_294⟩ := hw_294
                          have hmt9 := minL_top (aH Z) (aR Z a9)
                          have hv294 : x_294 = iI ↑(minL (aH Z) (aR Z a9)) := by
                            rw [v_294, rw_all hI hh2]
                          refine lz_icmp_eq (tgt := 302) hx hb v_288 hv294 ⟨by omega, by omega⟩ dX4_isSame_297 (by decide) (fun c_297 => ?_) (fun c_297 => ?_)
                          · refine lz_iinc (lv2 := fun z => [(4, .int z), (10, .int ww), (9, .ref n_206), (3, .int x_202), (11, .int ii), (8, .ref x_133), (7, .int mo), (6, .int ll), (5, .int ff), (2, .int su2), (0, .ref t0), (1, .ref (ad 0))]) hx hb dX4_isSame_302 hl (k := 8) rfl hia (by decide) (fun _ => rfl) (fun x_302 ls v_302 hl => ?_)
                            refine lv_goto (tgt := 7) hx hb dX4_isSame_305 (by decide) ?_
                            refine W.widen (k := (123 * (a9 + 1))) (n := (3446 * (a9 + 1))) (by omega) (by omega) ?_
                            exact ih7 (a9 + 1) x_302 su2 x_202 L2_294 f2_294 _ _ _ (by omega) (v_302.trans (congrArg iI (by omega))) (by omega) (hs2.trans (congrArg iI (by rw [take_all (show (aR Z a9).length ≤ i by omega)]; rfl))) (v_202.trans (congrArg iI (by show _ = (↑(lH Z a9 + (aR Z a9).length) : Int); omega))) (SimP.ext hSP3 e_294) hP hD hS (lv_sub hl [0, 3, 9, 10, 11] rfl)
                          · exfalso; omega
                        · refine lv_aload_n hx hb dX4_isSame_261 rfl (lv_at hl 11 rfl) ?_
                          refine lv_iload hx hb dX4_isSame_262 (lv_at hl 8 rfl) ?_
                          refine lv_iload hx hb dX4_isSame_264 (lv_at hl 0 rfl) ?_
                          refine cr_i (va_runV (As := [.int aa, .int ww]) (rest := []) ⟨hx, hb, hml, hown, hts⟩ (k_X3_about_P l D cI cZ cJ cK _ aa ww ad Z cx a9 (↑w9) hC hI (hia.trans (congrArg iI (by omega))) (by omega) (hiw.trans (congrArg iI (by omega))) (by omega)) (cwV 2 hts (gV qw493 qw345 qw346 qw10 qw347) rfl rfl rfl (by decide +kernel) ⟨Nat.le_of_ble_eq_true rfl, Nat.le_of_ble_eq_true rfl⟩) (pvP (ci := 3) (r := (RX3, TX3, 5)) (q0 := 0) (wr := ([(t0, .inr (4, [.ref lw, .ref rk, .ref hs, .ref em, .int mt, .int qn]))] ++ va_pl (L2_133 ++ [n_206]) (va_up f2_133 n_206 (.inl (cI, 6, .inl f_248))))) hP hD hK hT hZ hS (pm_2 _ _ _) rfl rfl) rfl rfl hl.1 rfl (lv_room (Nat.le_of_ble_eq_true rfl)) dX4_isSame_266 ⟨(by show (((123 * a9 + (catR (rwA Z a9) b9).length) + 41) + 1) ≤ 327; omega), (by show (((3446 * a9 + 6 * (catR (rwA Z a9) b9).length) + 1600) + 6) ≤ 7177; omega)⟩) hS hP (fun x_266 H locs hw_266 hP hS => ?_)
                          replace hw_266 : (x_266 = abV (aL Z a9) (aH Z) (aR Z a9) (aG Z a9) (↑w9)) := hw_266
                          have v_266 := hw_266
                          refine lv_aload hx hb dX4_isSame_269 (lv_at hl 1 rfl) ?_
                          refine lv_iload hx hb dX4_isSame_271 (lv_at hl 0 rfl) ?_
                          refine rd_iald hx hb hK hP 0 (pl_mem (List.mem_append_right _ List.mem_cons_self) (va_up_self _ _ _)) rfl hiw (w9) (by omega) (by omega) (by omega) dX4_isSame_273 (fun x_273 e_273 => ?_)
                          refine lv_icmp_eq (tgt := 279) hx hb dX4_isSame_274 (by decide) (fun c_274 => ?_) (fun c_274 => ?_)
                          · refine lz_iinc (lv2 := fun z => [(10, .int z), (9, .ref n_206), (3, .int x_202), (11, .int ii), (8, .ref x_133), (7, .int mo), (6, .int ll), (5, .int ff), (4, .int aa), (2, .int su2), (0, .ref t0), (1, .ref (ad 0))]) hx hb dX4_isSame_279 hl (k := 0) rfl hiw (by decide) (fun _ => rfl) (fun x_279 ls v_279 hl => ?_)
                            refine lv_goto (tgt := 254) hx hb dX4_isSame_282 (by decide) ?_
                            exact ih254 (w9 + 1) x_279 _ _ _ (by omega) (v_279.trans (congrArg iI (by omega))) (by omega) hP hD hS (lv_sub hl [0, 1, 2, 3, 4, 5, 6, 7, 8, 9, 10, 11] rfl)
                          · exfalso; exact absurd (v_266.trans ((hab w9 (by omega)).symm.trans e_273.symm)) c_274
                    exact key254 _ 0 x_251 _ _ _ (Nat.lt_succ_self _) (v_251.trans (congrArg iI (by omega))) (by omega) hP hD hS (lv_sub hl [0, 1, 2, 3, 4, 5, 6, 7, 8, 9, 10, 11] rfl)
                  · have hxn := m2 _ (getD_in (show i < (aR Z a9).length by omega))
                    have hxH := (hI.2.1 _ hxn).1
                    obtain ⟨ea1, ea2, gx, ea3, ea4, ea5, ea6⟩ := q7 _ hxn
                    have hmr := maxL_in (Hh := aH Z) (L := (aR Z a9).take i) (fun x hx9 => (hI.2.1 x (m2 x (List.mem_of_mem_take hx9))).1)
                    refine lv_aload hx hb dX4_isSame_157 (lv_at hl 2 rfl) ?_
                    refine lv_iload hx hb dX4_isSame_159 (lv_at hl 0 rfl) ?_
                    refine rd_iald hx hb hK hP 0 (pl_mem i_133 hfa) rfl hi (i) (by omega) (by omega) (by omega) dX4_isSame_161 (fun x_161 e_161 => ?_)
                    have v_161 : x_161 = iI (↑((aR Z a9).getD i 0)) := e_161.trans (hga _ (by omega))
                    refine lv_istore (lv' := [(12, .int x_161), (11, .int ii), (10, .int x_144), (9, .ref x_133), (8, .ref x_133), (7, .int mo), (6, .int ll), (5, .int ff), (4, .int aa), (3, .int li), (2, .int su2), (0, .ref t0), (1, .ref (ad 0))]) hx hb dX4_isSame_162 hl (by decide) rfl (fun ls hl => ?_)
                    refine lv_iload hx hb dX4_isSame_164 (lv_at hl 5 rfl) ?_
                    refine lv_aload_n hx hb dX4_isSame_166 rfl (lv_at hl 11 rfl) ?_
                    refine va_get (D := D) (ci := 4) (v := .ref em) (C := RX4) (T := TX4) (N := 6) hx hb hts iX4 hown hK hP 24 rfl rfl 3 (by decide) (hts _ qw620) (fun _ h9 => h9) rfl dX4_isSame_167 ?_
                    refine lv_iload hx hb dX4_isSame_170 (lv_at hl 0 rfl) ?_
                    refine rd_aald hx hb hK hP 2 (pl_mem em1 em3) rfl v_161 (((aR Z a9).getD i 0)) (by omega) (by omega) (by omega) (em4 _ (by omega)) dX4_isSame_172 ?_
                    refine lz_iconst hx hb dX4_isSame_173 (fun x_173 v_173 => ?_)
                    refine rd_iald hx hb hK hP 0 (pl_mem ea1 ea3) rfl v_173 (0) (by omega) (by omega) (by omega) dX4_isSame_174 (fun x_174 e_174 => ?_)
                    have v_174 : x_174 = iI (↑(aH Z ((aR Z a9).getD i 0))) := e_174.trans (ea4)
                    refine lz_max hx hb (by rw [hml]; exact hl.1.symm) hown (hts _ qw492) (hts _ qw366) (hts _ qw20) (hts _ qw367) (Nat.le_of_ble_eq_true rfl) (Nat.le_of_ble_eq_true rfl) (by show ((123 * a9 + (catR (rwA Z a9) b9).length) + 41) ≤ 327; omega) (by show ((3446 * a9 + 6 * (catR (rwA Z a9) b9).length) + 1600) ≤ 7177; omega) hmo v_174 ⟨by omega, by omega⟩ dX4_isSame_175 (fun x_175 v_175 => ?_)
                    refine lv_istore (lv' := [(7, .int x_175), (12, .int x_161), (11, .int ii), (10, .int x_144), (9, .ref x_133), (8, .ref x_133), (6, .int ll), (5, .int ff), (4, .int aa), (3, .int li), (2, .int su2), (0, .ref t0), (1, .ref (ad 0))]) hx hb dX4_isSame_178 hl (by decide) rfl (fun ls hl => ?_)
                    refine lv_iload_n hx hb dX4_isSame_180 rfl (lv_at hl 10 rfl) ?_
                    refine lv_aload_n hx hb dX4_isSame_181 rfl (lv_at hl 11 rfl) ?_
                    refine va_get (D := D) (ci := 4) (v := .ref em) (C := RX4) (T := TX4) (N := 6) hx hb hts iX4 hown hK hP 24 rfl rfl 3 (by decide) (hts _ qw620) (fun _ h9 => h9) rfl dX4_isSame_182 ?_
                    refine lv_iload hx hb dX4_isSame_185 (lv_at hl 1 rfl) ?_
                    refine rd_aald hx hb hK hP 2 (pl_mem em1 em3) rfl v_161 (((aR Z a9).getD i 0)) (by omega) (by omega) (by omega) (em4 _ (by omega)) dX4_isSame_187 ?_
                    refine lz_iconst hx hb dX4_isSame_188 (fun x_188 v_188 => ?_)
                    refine rd_iald hx hb hK hP 0 (pl_mem ea1 ea3) rfl v_188 (0) (by omega) (by omega) (by omega) dX4_isSame_189 (fun x_189 e_189 => ?_)
                    have v_189 : x_189 = iI (↑(aH Z ((aR Z a9).getD i 0))) := e_189.trans (ea4)
                    refine lz_iadd hx hb hs2 v_189 dX4_isSame_190 (fun x_190 v_190 => ?_)
                    refine lv_istore_n (lv' := [(2, .int x_190), (7, .int x_175), (12, .int x_161), (11, .int ii), (10, .int x_144), (9, .ref x_133), (8, .ref x_133), (6, .int ll), (5, .int ff), (4, .int aa), (3, .int li), (0, .ref t0), (1, .ref (ad 0))]) hx hb dX4_isSame_191 rfl hl (by decide) rfl (fun ls hl => ?_)
                    refine lz_iinc (lv2 := fun z => [(11, .int z), (2, .int x_190), (7, .int x_175), (12, .int x_161), (10, .int x_144), (9, .ref x_133), (8, .ref x_133), (6, .int ll), (5, .int ff), (4, .int aa), (3, .int li), (0, .ref t0), (1, .ref (ad 0))]) hx hb dX4_isSame_192 hl (k := 3) rfl hi (by decide) (fun _ => rfl) (fun x_192 ls v_192 hl => ?_)
                    refine lv_goto (tgt := 150) hx hb dX4_isSame_195 (by decide) ?_
                    exact ih150 (i + 1) x_192 x_190 x_175 _ _ _ (by omega) (v_192.trans (congrArg iI (by omega))) (by omega) (v_190.trans (congrArg iI (by rw [sumL_take (aH Z) (aR Z a9) (show i < (aR Z a9).length by omega)]; omega))) (v_175.trans (congrArg iI (by rw [maxL_take (aH Z) (aR Z a9) (show i < (aR Z a9).length by omega)]))) hP hD hS (lv_sub hl [0, 4, 5, 6, 2, 7, 8, 9, 10, 1, 11, 12] rfl)
              exact key150 _ 0 x_147 su x_19 _ _ _ (Nat.lt_succ_self _) (v_147.trans (congrArg iI (by omega))) (by omega) (hsu) (v_19) hP hD hS (lv_sub hl [0, 1, 2, 3, 4, 5, 6, 7, 8, 9, 10, 11] rfl)
            · obtain ⟨ha1, ha2, gh, ha3, ha4⟩ := q5 a9 hh2
              obtain ⟨rb1, rb2, gr, rb4, rb5⟩ := q6 a9 b9 hh2 (by omega)
              have hr40 := rw40 hI a9 hh2 b9
              have hcs9 := catR_s (rwA Z a9) b9
              have hcm := catR_mono (rwA Z a9) (show b9 + 1 ≤ 11 by omega)
              have hfr := fsP_rg hfs (by omega)
              refine lv_aload_n hx hb dX4_isSame_32 rfl (lv_at hl 7 rfl) ?_
              refine va_get (D := D) (ci := 4) (v := .ref hs) (C := RX4) (T := TX4) (N := 6) hx hb hts iX4 hown hK hP 24 rfl rfl 2 (by decide) (hts _ qw619) (fun _ h9 => h9) rfl dX4_isSame_33 ?_
              refine lv_iload hx hb dX4_isSame_36 (lv_at hl 4 rfl) ?_
              refine rd_aald hx hb hK hP 3 (pl_mem hs1 hs3) rfl hia (a9) (by omega) (by omega) (by omega) (hs4 _ (by omega)) dX4_isSame_38 ?_
              refine lv_iload hx hb dX4_isSame_39 (lv_at hl 0 rfl) ?_
              refine rd_aald hx hb hK hP 2 (pl_mem ha1 ha3) rfl hib (b9) (by omega) (by omega) (by omega) (ha4 _ (by omega)) dX4_isSame_41 ?_
              refine lv_astore (lv' := [(9, .ref (rr a9 b9)), (8, .int bb), (7, .int x_19), (6, .int ll), (5, .int ff), (4, .int aa), (3, .int li), (2, .int su), (0, .ref t0), (1, .ref (ad 0))]) hx hb dX4_isSame_42 hl (by decide) rfl (fun ls hl => ?_)
              refine lv_aload_n hx hb dX4_isSame_44 rfl (lv_at hl 9 rfl) ?_
              refine lv_iload hx hb dX4_isSame_45 (lv_at hl 5 rfl) ?_
              refine lv_iload hx hb dX4_isSame_47 (lv_at hl 1 rfl) ?_
              refine cr_i (va_runV (As := [.int aa, .int bb]) (rest := []) ⟨hx, hb, hml, hown, hts⟩ (k_X3_many_P l D cI cZ cJ cK _ aa bb ad Z cx a9 b9 hC hI (hia.trans (congrArg iI (by omega))) (by omega) (hib.trans (congrArg iI (by omega))) (by omega)) (cwV 2 hts (gV qw486 qw302 qw303 qw10 qw304) rfl rfl rfl (by decide +kernel) ⟨Nat.le_of_ble_eq_true rfl, Nat.le_of_ble_eq_true rfl⟩) (pvP (ci := 3) (r := (RX3, TX3, 5)) (q0 := 0) (wr := ([(t0, .inr (4, [.ref lw, .ref rk, .ref hs, .ref em, .int mt, .int qn]))] ++ va_pl Li fi)) hP hD hK hT hZ hS (pm_2 _ _ _) rfl rfl) rfl rfl hl.1 rfl (lv_room (Nat.le_of_ble_eq_true rfl)) dX4_isSame_49 ⟨(by show (123 * a9 + (catR (rwA Z a9) b9).length) ≤ 327; omega), (by show (3446 * a9 + 6 * (catR (rwA Z a9) b9).length) ≤ 7177; omega)⟩) hS hP (fun x_49 H locs hw_49 hP hS => ?_)
              replace hw_49 : (x_49 = iI (↑(rwA Z a9 b9).length)) := hw_49
              have v_49 := hw_49
              refine lv_aload hx hb dX4_isSame_52 (lv_at hl 0 rfl) ?_
              refine rd_alen hx hb hK hP 0 (pl_mem rb1 rb4) rfl dX4_isSame_54 (fun x_54 v_54 => ?_)
              have v_54 : x_54 = iI (↑((rwA Z a9 b9).length)) := v_54
              refine lz_icmp_eq (tgt := 60) hx hb v_49 v_54 ⟨by omega, by omega⟩ dX4_isSame_55 (by decide) (fun c_55 => ?_) (fun c_55 => ?_)
              · refine lz_iconst hx hb dX4_isSame_60 (fun x_60 v_60 => ?_)
                refine lv_istore (lv' := [(10, .int x_60), (9, .ref (rr a9 b9)), (8, .int bb), (7, .int x_19), (6, .int ll), (5, .int ff), (4, .int aa), (3, .int li), (2, .int su), (0, .ref t0), (1, .ref (ad 0))]) hx hb dX4_isSame_61 hl (by decide) rfl (fun ls hl => ?_)
                have key63 : ∀ (fu : Nat) (k9 : Nat) (kk : Int32) (H : Heap) (locs : List Loc) (ls : Array Slot), (rwA Z a9 b9).length + 1 - k9 < fu → (kk = iI (↑k9)) → (k9 ≤ (rwA Z a9 b9).length) → va_P D vwCl (((clsW cI cZ ad cx) ++ [(t0, .inr (4, [.ref lw, .ref rk, .ref hs, .ref em, .int mt, .int qn]))]) ++ va_pl Li fi) H → va_D A (((clsW cI cZ ad cx) ++ [(t0, .inr (4, [.ref lw, .ref rk, .ref hs, .ref em, .int mt, .int qn]))]) ++ va_pl Li fi) → va_S A s.heap H locs → lv_has ls 13 [(10, .int kk), (9, .ref (rr a9 b9)), (8, .int bb), (7, .int x_19), (6, .int ll), (5, .int ff), (4, .int aa), (3, .int li), (2, .int su), (0, .ref t0), (1, .ref (ad 0))] → W p l e (headSpec (ws_ yX4_isSame cX4_isSame 13 (Option.some .boolean)) ({ frames := 7, cells := 327, slots := 7177, locals := 106 })).room s m ([.ref t0, .ref (ad 0)] : List Value).toArray below meth c H locs (123 * a9 + ((catR (rwA Z a9) b9).length + k9)) (3446 * a9 + 6 * ((catR (rwA Z a9) b9).length + k9)) (MQD lw_cs below (va_Qi (fun r (u : List Nat × (Nat → va_E)) => (r = iI (1))) (fun (u : List Nat × (Nat → va_E)) t => wPost D A (((clsW cI cZ ad cx) ++ [(t0, .inr (4, [.ref lw, .ref rk, .ref hs, .ref em, .int mt, .int qn]))]) ++ va_pl u.1 u.2) t) A) ([.ref t0, .ref (ad 0)] : List Value).toArray s 327 7177 A) (F0 m 63 ls []) := by
                  intro fu
                  induction fu with
                  | zero => intros; omega
                  | succ fu ih63 =>
                    intro k9 kk H locs ls hfu hik hlk hP hD hS hl
                    refine lv_iload hx hb dX4_isSame_63 (lv_at hl 0 rfl) ?_
                    refine lv_aload hx hb dX4_isSame_65 (lv_at hl 1 rfl) ?_
                    refine rd_alen hx hb hK hP 0 (pl_mem rb1 rb4) rfl dX4_isSame_67 (fun x_67 v_67 => ?_)
                    have v_67 : x_67 = iI (↑((rwA Z a9 b9).length)) := v_67
                    refine lz_icmp_ge (tgt := 97) hx hb hik v_67 ⟨by omega, by omega⟩ dX4_isSame_68 (by decide) (fun c_68 => ?_) (fun c_68 => ?_)
                    · refine lv_aload hx hb dX4_isSame_97 (lv_at hl 1 rfl) ?_
                      refine rd_alen hx hb hK hP 0 (pl_mem rb1 rb4) rfl dX4_isSame_99 (fun x_99 v_99 => ?_)
                      have v_99 : x_99 = iI (↑((rwA Z a9 b9).length)) := v_99
                      refine lz_if_ne (tgt := 106) hx hb v_99 (by omega) dX4_isSame_100 (by decide) (fun c_100 => ?_) (fun c_100 => ?_)
                      · refine lv_iload hx hb dX4_isSame_106 (lv_at hl 5 rfl) ?_
                        refine lz_if_ge (tgt := 116) hx hb hff (by omega) dX4_isSame_108 (by decide) (fun c_108 => ?_) (fun c_108 => ?_)
                        · refine lv_iload hx hb dX4_isSame_116 (lv_at hl 5 rfl) ?_
                          refine lv_istore (lv' := [(5, .int ff), (10, .int kk), (9, .ref (rr a9 b9)), (8, .int bb), (7, .int x_19), (6, .int ll), (4, .int aa), (3, .int li), (2, .int su), (0, .ref t0), (1, .ref (ad 0))]) hx hb dX4_isSame_118 hl (by decide) rfl (fun ls hl => ?_)
                          refine lv_iload hx hb dX4_isSame_120 (lv_at hl 3 rfl) ?_
                          refine lv_istore (lv' := [(6, .int bb), (5, .int ff), (10, .int kk), (9, .ref (rr a9 b9)), (8, .int bb), (7, .int x_19), (4, .int aa), (3, .int li), (2, .int su), (0, .ref t0), (1, .ref (ad 0))]) hx hb dX4_isSame_122 hl (by decide) rfl (fun ls hl => ?_)
                          refine lz_iinc (lv2 := fun z => [(8, .int z), (6, .int bb), (5, .int ff), (10, .int kk), (9, .ref (rr a9 b9)), (7, .int x_19), (4, .int aa), (3, .int li), (2, .int su), (0, .ref t0), (1, .ref (ad 0))]) hx hb dX4_isSame_124 hl (k := 4) rfl hib (by decide) (fun _ => rfl) (fun x_124 ls v_124 hl => ?_)
                          refine lv_goto (tgt := 25) hx hb dX4_isSame_127 (by decide) ?_
                          refine W.widen (k := (123 * a9 + (catR (rwA Z a9) (b9 + 1)).length)) (n := (3446 * a9 + 6 * (catR (rwA Z a9) (b9 + 1)).length)) (by omega) (by omega) ?_
                          exact ih25 (b9 + 1) x_124 fv ff (↑b9 : Int) bb _ _ _ (by omega) (v_124.trans (congrArg iI (by omega))) (by omega) (hff.trans (congrArg iI (by omega))) (fsP_k hfs (by omega)) (hib.trans (congrArg iI (by omega))) (lsP_n (by omega)) hP hD hS (lv_sub hl [0, 5, 1, 2, 6, 7, 8, 9, 10] rfl)
                        · refine lv_iload hx hb dX4_isSame_111 (lv_at hl 2 rfl) ?_
                          refine lv_goto (tgt := 118) hx hb dX4_isSame_113 (by decide) ?_
                          refine lv_istore (lv' := [(5, .int bb), (10, .int kk), (9, .ref (rr a9 b9)), (8, .int bb), (7, .int x_19), (6, .int ll), (4, .int aa), (3, .int li), (2, .int su), (0, .ref t0), (1, .ref (ad 0))]) hx hb dX4_isSame_118 hl (by decide) rfl (fun ls hl => ?_)
                          refine lv_iload hx hb dX4_isSame_120 (lv_at hl 3 rfl) ?_
                          refine lv_istore (lv' := [(6, .int bb), (5, .int bb), (10, .int kk), (9, .ref (rr a9 b9)), (8, .int bb), (7, .int x_19), (4, .int aa), (3, .int li), (2, .int su), (0, .ref t0), (1, .ref (ad 0))]) hx hb dX4_isSame_122 hl (by decide) rfl (fun ls hl => ?_)
                          refine lz_iinc (lv2 := fun z => [(8, .int z), (6, .int bb), (5, .int bb), (10, .int kk), (9, .ref (rr a9 b9)), (7, .int x_19), (4, .int aa), (3, .int li), (2, .int su), (0, .ref t0), (1, .ref (ad 0))]) hx hb dX4_isSame_124 hl (k := 4) rfl hib (by decide) (fun _ => rfl) (fun x_124 ls v_124 hl => ?_)
                          refine lv_goto (tgt := 25) hx hb dX4_isSame_127 (by decide) ?_
                          refine W.widen (k := (123 * a9 + (catR (rwA Z a9) (b9 + 1)).length)) (n := (3446 * a9 + 6 * (catR (rwA Z a9) (b9 + 1)).length)) (by omega) (by omega) ?_
                          exact ih25 (b9 + 1) x_124 (↑b9 : Int) bb (↑b9 : Int) bb _ _ _ (by omega) (v_124.trans (congrArg iI (by omega))) (by omega) (hib.trans (congrArg iI (by omega))) (fsP_n hfs (by omega) (by omega)) (hib.trans (congrArg iI (by omega))) (lsP_n (by omega)) hP hD hS (lv_sub hl [0, 5, 1, 2, 6, 7, 8, 9, 10] rfl)
                      · refine lv_goto (tgt := 124) hx hb dX4_isSame_103 (by decide) ?_
                        refine lz_iinc (lv2 := fun z => [(8, .int z), (10, .int kk), (9, .ref (rr a9 b9)), (7, .int x_19), (6, .int ll), (5, .int ff), (4, .int aa), (3, .int li), (2, .int su), (0, .ref t0), (1, .ref (ad 0))]) hx hb dX4_isSame_124 hl (k := 2) rfl hib (by decide) (fun _ => rfl) (fun x_124 ls v_124 hl => ?_)
                        refine lv_goto (tgt := 25) hx hb dX4_isSame_127 (by decide) ?_
                        refine W.widen (k := (123 * a9 + (catR (rwA Z a9) (b9 + 1)).length)) (n := (3446 * a9 + 6 * (catR (rwA Z a9) (b9 + 1)).length)) (by omega) (by omega) ?_
                        exact ih25 (b9 + 1) x_124 fv ff lv ll _ _ _ (by omega) (v_124.trans (congrArg iI (by omega))) (by omega) (hff.trans (congrArg iI (by omega))) (fsP_e hfs (show (rwA Z a9 b9).length = 0 by omega)) (hll.trans (congrArg iI (by omega))) (lsP_e hls (show (rwA Z a9 b9).length = 0 by omega)) hP hD hS (lv_sub hl [0, 3, 4, 5, 6, 7, 8, 9, 10] rfl)
                    · have hgb := getD_bd (rw_bd hI a9 b9 hh2 (by omega)).1 k9
                      refine lv_aload_n hx hb dX4_isSame_71 rfl (lv_at hl 10 rfl) ?_
                      refine lv_iload hx hb dX4_isSame_72 (lv_at hl 6 rfl) ?_
                      refine lv_iload hx hb dX4_isSame_74 (lv_at hl 2 rfl) ?_
                      refine lv_iload hx hb dX4_isSame_76 (lv_at hl 0 rfl) ?_
                      refine cr_i (va_runV (As := [.int aa, .int bb, .int kk]) (rest := []) ⟨hx, hb, hml, hown, hts⟩ (k_X3_lies_P l D cI cZ cJ cK _ aa bb kk ad Z cx a9 b9 k9 hl0 hC hI (hia.trans (congrArg iI (by omega))) (by omega) (hib.trans (congrArg iI (by omega))) (by omega) (hik.trans (congrArg iI (by omega))) (by omega)) (cwV 3 hts (gV qw487 qw311 qw312 qw10 qw313) rfl rfl rfl (by decide +kernel) ⟨Nat.le_of_ble_eq_true rfl, Nat.le_of_ble_eq_true rfl⟩) (pvP (ci := 3) (r := (RX3, TX3, 5)) (q0 := 0) (wr := ([(t0, .inr (4, [.ref lw, .ref rk, .ref hs, .ref em, .int mt, .int qn]))] ++ va_pl Li fi)) hP hD hK hT hZ hS (pm_2 _ _ _) rfl rfl) rfl rfl hl.1 rfl (lv_room (Nat.le_of_ble_eq_true rfl)) dX4_isSame_78 ⟨(by show ((123 * a9 + ((catR (rwA Z a9) b9).length + k9)) + 1) ≤ 327; omega), (by show ((3446 * a9 + 6 * ((catR (rwA Z a9) b9).length + k9)) + 6) ≤ 7177; omega)⟩) hS hP (fun x_78 H locs hw_78 hP hS => ?_)
                      replace hw_78 : (x_78 = iI (↑((rwA Z a9 b9).getD k9 0))) := hw_78
                      have v_78 := hw_78
                      refine lv_aload hx hb dX4_isSame_81 (lv_at hl 1 rfl) ?_
                      refine lv_iload hx hb dX4_isSame_83 (lv_at hl 0 rfl) ?_
                      refine rd_iald hx hb hK hP 0 (pl_mem rb1 rb4) rfl hik (k9) (by omega) (by omega) (by omega) dX4_isSame_85 (fun x_85 e_85 => ?_)
                      have v_85 : x_85 = iI (↑((rwA Z a9 b9).getD k9 0)) := e_85.trans (rb5 _ (by omega))
                      refine lz_icmp_eq (tgt := 91) hx hb v_78 v_85 ⟨by omega, by omega⟩ dX4_isSame_86 (by decide) (fun c_86 => ?_) (fun c_86 => ?_)
                      · refine lz_iinc (lv2 := fun z => [(10, .int z), (9, .ref (rr a9 b9)), (8, .int bb), (7, .int x_19), (6, .int ll), (5, .int ff), (4, .int aa), (3, .int li), (2, .int su), (0, .ref t0), (1, .ref (ad 0))]) hx hb dX4_isSame_91 hl (k := 0) rfl hik (by decide) (fun _ => rfl) (fun x_91 ls v_91 hl => ?_)
                        refine lv_goto (tgt := 63) hx hb dX4_isSame_94 (by decide) ?_
                        refine W.widen (k := (123 * a9 + ((catR (rwA Z a9) b9).length + (k9 + 1)))) (n := (3446 * a9 + 6 * ((catR (rwA Z a9) b9).length + (k9 + 1)))) (by omega) (by omega) ?_
                        exact ih63 (k9 + 1) x_91 _ _ _ (by omega) (v_91.trans (congrArg iI (by omega))) (by omega) hP hD hS (lv_sub hl [0, 1, 2, 3, 4, 5, 6, 7, 8, 9, 10] rfl)
                      · exfalso; omega
                refine W.widen (k := (123 * a9 + ((catR (rwA Z a9) b9).length + 0))) (n := (3446 * a9 + 6 * ((catR (rwA Z a9) b9).length + 0))) (by omega) (by omega) ?_
                exact key63 _ 0 x_60 _ _ _ (Nat.lt_succ_self _) (v_60.trans (congrArg iI (by omega))) (by omega) hP hD hS (lv_sub hl [0, 1, 2, 3, 4, 5, 6, 7, 8, 9, 10] rfl)
              · exfalso; omega
        refine W.widen (k := (123 * a9 + (catR (rwA Z a9) 0).length)) (n := (3446 * a9 + 6 * (catR (rwA Z a9) 0).length)) (by omega) (by omega) ?_
        exact key25 _ 0 x_22 (-1) x_13 (-1) x_16 _ _ _ (Nat.lt_succ_self _) (v_22.trans (congrArg iI (by omega))) (by omega) (v_13.trans (congrArg iI (by omega))) (fsP_0) (v_16.trans (congrArg iI (by omega))) (lsP_0) hP hD hS (lv_sub hl [0, 1, 2, 3, 4, 5, 6, 7, 8] rfl)
  refine W.widen (k := (123 * 0)) (n := (3446 * 0)) (by omega) (by omega) ?_
  exact key7 _ 0 x_4 x_0 x_2 L f _ _ _ (Nat.lt_succ_self _) (v_4.trans (congrArg iI (by omega))) (by omega) (v_0) (v_2) (hSP) hP hD hS (lv_sub hl [0, 1, 2, 3, 4] rfl)
