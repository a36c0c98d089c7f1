set_option maxHeartbeats 4000000 in
set_option maxRecDepth 100000 in
theorem t_end {p : Program} {e : Env} {s : State} {m : MethodId} {args : Array Value} {below : List Frame} {meth : Method} {c : Code} {Q : State → Prop} {A : Nat → Prop} (l : Launch) (hl0 : l.stackTraces = false) (D : va_G) (cI cZ cJ cK : ClassId) {H : Heap} {locs : List Loc} {ls : Array Slot} {cells slots : Nat} (ad : Nat → Nat) (Z : va_AS) (cx : CX) (bs : Nat) (t1 : Nat) (tt : Int32) (lw : Nat) (rk : Nat) (hs : Nat) (em : Nat) (mt : Int32) (qn : Int32) (L : List Nat) (f : Nat → va_E)  (hx : p.tables.exec = Jvm.exec) (hb : c.code = cL_law) (hml : c.maxLocals = 22) (hown : s.vm.findClass RL = some m.cls) (hts : ∀ w ∈ lw_G, w.before args s = true) (hT : TW s) (hZ : ZW A s s.heap) (hK : va_K D vwCl (KT cI cZ cJ cK) s) (hA : ∀ q : Nat, s.heap.size ≤ q → A q) (hC : CStx Z cx) (hI : AI Z) (hPI : PI Z) (hSP : SMA cI cJ cK Z lw rk hs em L f) (hmt : mt = aT Z) (hqn : qn = aQ Z) (hP : va_P D vwCl ((clsW cI cZ ad cx) ++ ([(t1, .inr (4, [.ref lw, .ref rk, .ref hs, .ref em, .int mt, .int qn]))] ++ va_pl L f)) H) (hD : va_D A ((clsW cI cZ ad cx) ++ ([(t1, .inr (4, [.ref lw, .ref rk, .ref hs, .ref em, .int mt, .int qn]))] ++ va_pl L f))) (hS : va_S A s.heap H locs) (hl : lv_has ls 22 [(0, .ref bs), (1, .ref (ad 0)), (2, .ref t1), (3, .int tt)]) (hcc : cells + 327 ≤ 600130) (hss : slots + 7177 ≤ 7301080) (kend : ∀ (d1 : Drawn) (H : Heap) (locs : List Loc) (ls : Array Slot), s.drawn.sameBut d1 lw_cs → va_S A s.heap H locs → W p l e room_1 (s.setDrawn d1) m args below meth c H locs 600130 7301080 Q (F0 m 946 ls [.int 1])) : W p l e room_1 s m args below meth c H locs cells slots Q (F0 m 941 ls []) := by
  have hd0 := Drawn.sameBut.refl s.drawn lw_cs
  have hts0 := hts
  have hT0 := hT
  have hZ0 := hZ
  have hK0 := hK
  refine W.base ?_
  have hts := dr_words hts0 s.drawn
  have hT : TW (s.setDrawn s.drawn) := TW.same (s := s) rfl hT0
  have hZ : ZW A (s.setDrawn s.drawn) (s.setDrawn s.drawn).heap := ZW.moved (u := s) (Vm.Alike.refl s.vm) hZ0
  have hK : va_K D vwCl (KT cI cZ cJ cK) (s.setDrawn s.drawn) := va_K.moved (u := s) (Vm.Alike.refl s.vm) hK0
  refine lv_aload_n hx hb dL_law_941 rfl (lv_at hl 2 rfl) ?_
  refine lv_aload_n hx hb dL_law_942 rfl (lv_at hl 1 rfl) ?_
  refine cp_iD hd0 (wr := []) (ws2 := fun u9 => ((clsW cI cZ ad cx) ++ ([(t1, .inr (4, [.ref lw, .ref rk, .ref hs, .ref em, .int mt, .int qn]))] ++ va_pl u9.1 u9.2))) (va_runV_D (As := [.ref (ad 0)]) (rest := []) ⟨hx, hb, hml, hown, hts⟩ (k_X4_isSame l D cI cZ cJ cK _ t1 lw rk hs em mt qn L f ad Z cx hl0 hC hI hSP hmt hqn) (cwV 1 hts (gV qw482 qw483 qw484 qw14 qw485) rfl rfl rfl (by decide +kernel) ⟨Nat.le_of_ble_eq_true rfl, Nat.le_of_ble_eq_true rfl⟩) (pvP (ci := 4) (r := (RX4, TX4, 6)) (q0 := 24) (wr := []) hP hD hK hT hZ hS (pm_5 _ _ _) rfl rfl) rfl rfl hl.1 rfl (lv_room (Nat.le_of_ble_eq_true rfl)) dL_law_943 ⟨(by show (cells + 327) ≤ 600130; omega), (by show (slots + 7177) ≤ 7301080; omega)⟩) hS hP hD hA (pm_5 _ _ _) (fun _ => (pm_5 _ _ _).symm) (fun x_943 u_943 H locs d1 hd1 hw_943 hP hD hS => ?_)
  obtain ⟨L2_943, f2_943⟩ := u_943
  have hP : va_P D vwCl ((clsW cI cZ ad cx) ++ ([(t1, .inr (4, [.ref lw, .ref rk, .ref hs, .ref em, .int mt, .int qn]))] ++ va_pl L2_943 f2_943)) H := hP
  have hD : va_D A ((clsW cI cZ ad cx) ++ ([(t1, .inr (4, [.ref lw, .ref rk, .ref hs, .ref em, .int mt, .int qn]))] ++ va_pl L2_943 f2_943)) := hD
  replace hw_943 : (x_943 = iI (1)) := hw_943
  have v_943 := hw_943
  refine W.widen (k := 600130) (n := 7301080) (by omega) (by omega) ?_
  rw [v_943, show iI 1 = 1 from rfl]
  exact kend d1 _ _ _ hd1 hS
set_option maxHeartbeats 4000000 in
set_option maxRecDepth 100000 in
theorem t_loop {p : Program} {e : Env} {s : State} {m : MethodId} {args : Array Value} {below : List Frame} {meth : Method} {c : Code} {Q : State → Prop} {A : Nat → Prop} (l : Launch) (hl0 : l.stackTraces = false) (D : va_G) (cI cZ cJ cK : ClassId) (ad : Nat → Nat) (t1 : Nat) (lw : Nat) (rk : Nat) (hs : Nat) (bs LS : Nat) (xs : Nat → Int32) (hX : va_X bs LS xs s s.heap) (hbl : bs < s.heap.size) (hbA : ¬ A bs) (hL : LS ≤ 260) (hx : p.tables.exec = Jvm.exec) (hb : c.code = cL_law) (hml : c.maxLocals = 22) (hown : s.vm.findClass RL = some m.cls) (hts : ∀ w ∈ lw_G, w.before args s = true) (hT : TW s) (hZ : ZW A s s.heap) (hK : va_K D vwCl (KT cI cZ cJ cK) s) (hA : ∀ q : Nat, s.heap.size ≤ q → A q) (kend : ∀ (d1 : Drawn) (H : Heap) (locs : List Loc) (ls : Array Slot), s.drawn.sameBut d1 lw_cs → va_S A s.heap H locs → W p l e room_1 (s.setDrawn d1) m args below meth c H locs 600130 7301080 Q (F0 m 946 ls [.int 1])) : ∀ (fu : Nat) (t : Nat) (Z : va_AS) (cx : CX) (em : Nat) (mt : Int32) (qn : Int32) (L : List Nat) (f : Nat → va_E) (tt : Int32) (H : Heap) (locs : List Loc) (ls : Array Slot), 40 - t < fu → t ≤ 40 → tt = iI ↑t → CStx Z cx → AI Z → PI Z → SMA cI cJ cK Z lw rk hs em L f → mt = aT Z → qn = aQ Z → va_P D vwCl ((clsW cI cZ ad cx) ++ ([(t1, .inr (4, [.ref lw, .ref rk, .ref hs, .ref em, .int mt, .int qn]))] ++ va_pl L f)) H → va_D A ((clsW cI cZ ad cx) ++ ([(t1, .inr (4, [.ref lw, .ref rk, .ref hs, .ref em, .int mt, .int qn]))] ++ va_pl L f)) → va_S A s.heap H locs → lv_has ls 22 [(0, .ref bs), (1, .ref (ad 0)), (2, .ref t1), (3, .int tt)] → W p l e room_1 s m args below meth c H locs (7000 + 503 * t) (230000 + 11157 * t) Q (F0 m 22 ls []) := by
  intro fu
  induction fu with
  | zero =>
    intros
    omega
  | succ fu ih =>
    intro t Z cx em mt qn L f tt H locs ls hfu hle htt hC hI hPI hSP hmt hqn hP hD hS hl
    refine lv_iload_n hx hb dL_law_22 rfl (lv_at hl 3 rfl) ?_
    refine lz_bipush hx hb (by decide) dL_law_23 (fun x_23 v_23 => ?_)
    refine lz_icmp_ge (tgt := 941) hx hb htt v_23 ⟨by omega, by omega⟩ dL_law_25 (by decide) (fun c_25 => ?_) (fun c_25 => ?_)
    · exact t_end l hl0 D cI cZ cJ cK ad Z cx bs t1 tt lw rk hs em mt qn L f hx hb hml hown hts hT hZ hK hA hC hI hPI hSP hmt hqn hP hD hS hl (by omega) (by omega) kend
    have hlw4 : ∀ k, k < 2 → aL Z k < 1024 := fun k hk => (hI.2.2.1 k hk).2.2
    refine t_s0 l hl0 D cI cZ cJ cK ad Z cx t1 tt lw rk hs em mt qn L f t bs LS xs hX hbl hbA hL hx hb hml hown hts hT hZ hK hA (hC) (hI) (hPI) (hSP) (hmt) (hqn) (htt) (by omega) hP hD hS hl (by omega) (by omega) (fun Z9 cx9 em9 mt9 qn9 L9 f9 ql qs gl pp xx nn l0 a0 pv H locs ls hC9 hI9 hPI9 hSP9 hmt9 hqn9 hlow hpp hpg hpv hnn hl9 ha9 hP hD hS hl => ?_)
    refine t_s1 l hl0 D cI cZ cJ cK ad Z9 cx9 ([(t1, .inr (4, [.ref lw, .ref rk, .ref hs, .ref em9, .int mt9, .int qn9]))] ++ va_pl L9 f9) bs t1 tt xx ql qs gl (fun _ => 0) pp nn l0 a0 pv (aL Z)  hx hb hml hown hts hT hZ hK hA (hC9) (hI9) (hPI9) (hlow) (hlw4) (hpp) (hpg) (hpv) (hnn) (hl9) (ha9) (fun e he => iI_0) hP hD hS hl (by omega) (by omega) (fun li g H locs ls hli hg hP hD hS hl => ?_)
    refine t_s2 l hl0 D cI cZ cJ cK ad Z9 cx9 ([(t1, .inr (4, [.ref lw, .ref rk, .ref hs, .ref em9, .int mt9, .int qn9]))] ++ va_pl L9 f9) bs t1 tt xx ql qs gl g nn li  hx hb hml hown hts hT hZ hK hA (hC9) (hI9) (hPI9) (hnn) (hg) hP hD hS hl (by omega) (by omega) (fun rr mm H locs ls hrr hmm hP hD hS hl => ?_)
    refine t_s3 l hl0 D cI cZ cJ cK ad Z9 cx9 ([(t1, .inr (4, [.ref lw, .ref rk, .ref hs, .ref em9, .int mt9, .int qn9]))] ++ va_pl L9 f9) bs t1 tt xx nn li rr mm  hx hb hml hown hts hT hZ hK hA (hC9) (hI9) (hPI9) (hnn) (hli) (hrr) (hmm) hP hD hS hl (by omega) (by omega) (fun h hh0 sz be cx8 H locs ls hh2 hhv hsz hbe hC8 hP hD hS hl => ?_)
    refine t_s4 l hl0 D cI cZ cJ cK ad Z9 cx8 ([(t1, .inr (4, [.ref lw, .ref rk, .ref hs, .ref em9, .int mt9, .int qn9]))] ++ va_pl L9 f9) bs t1 tt h hh0 sz be  hx hb hml hown hts hT hZ hK hA (hC8) (hI9) (hPI9) (hh2) (hhv) (hsz) (hbe) hP hD hS hl (by omega) (by omega) (fun cx7 H locs ls hC7 hP hD hS hl => ?_)
    refine t_s5 l hl0 D cI cZ cJ cK ad Z9 cx7 bs t1 tt lw rk hs em9 mt9 qn9 L9 f9 t h hh0 sz  hx hb hml hown hts hT hZ hK hA (hC7) (hI9) (hPI9) (hh2) (hhv) (hsz) (hSP9) (hmt9) (hqn9) (htt) (by omega) hP hD hS hl (by omega) (by omega) (fun Z6 cx6 mt6 L6 f6 H locs ls hC6 hI6 hPI6 hSP6 hmt6 hqn6 hP hD hS hl => ?_)
    refine lz_iinc (lv2 := fun z => [(3, .int z), (0, .ref bs), (1, .ref (ad 0)), (2, .ref t1)]) hx hb dL_law_935 hl (k := 3) rfl htt (by decide) (fun _ => rfl) (fun x_935 ls v_935 hl => ?_)
    refine lv_goto (tgt := 22) hx hb dL_law_938 (by decide) ?_
    refine W.widen (k := 7000 + 503 * (t + 1)) (n := 230000 + 11157 * (t + 1)) (by omega) (by omega) ?_
    exact ih (t + 1) Z6 cx6 em9 mt6 qn9 L6 f6 x_935 _ _ _ (by omega) (by omega) (v_935.trans (congrArg iI (by omega))) hC6 hI6 hPI6 hSP6 hmt6 hqn6 hP hD hS (lv_sub hl [1, 2, 3, 0] rfl)
