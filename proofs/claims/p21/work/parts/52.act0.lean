/-! the law's own methods: remainders, the script, handlers -/
def bel (v : Int32) (k : Nat) : Nat := v.toBitVec.toNat % 2147483648 % k
theorem bel_lt (v : Int32) {k : Nat} (h : 0 < k) : bel v k < k := Nat.mod_lt _ h
theorem bel_rem (v : Int32) {k : Nat} {y z : Int32} (hy : y = iI ↑k) (hz : z = iI 2147483647) (h0 : 0 < k) (hk : k < 2147483648) : (v &&& z) - (v &&& z) / y * y = iI ↑(bel v k) := by
  subst hy hz
  rw [pk_and v 31 (by decide), ← nI_i k, pk_rem (Nat.mod_lt _ (by decide)) h0 hk, nI_i]
  rfl
theorem iI_ne0 {y : Int32} {k : Nat} (hy : y = iI ↑k) (h0 : 0 < k) (hk : k < 2147483648) : ¬ y = 0 := by
  subst hy
  rw [iI_0, iI_eq ⟨⟨by omega, by omega⟩, by decide⟩]
  omega
theorem pm_1 (C S P : va_W) : ((C ++ S) ++ P).Perm (C ++ (S ++ P)) := by rw [List.append_assoc]
theorem pm_2 (C S P : va_W) : ((C ++ S) ++ P).Perm ((S ++ P) ++ C) := by rw [List.append_assoc]; exact List.perm_append_comm
abbrev wh_ (y : MethodName) (c : ByteArray) (n : Nat) (r : Option FieldType) (hh : List (Nat × Nat × Nat × Nat)) : List Cond := .codeWith y c n r hh :: lw_G
theorem va_ofWH {l : Launch} {y : MethodName} {ws ws' : List Cond} {rm : Room} {Pc : Array Value → State → Prop} {Qc : Array Value → State → Outcome → State → Prop} {mc ms : Nat} {free : Addr → Prop} {cc : ByteArray} {maxL : Nat} {ret : Option FieldType} {hh : List (Nat × Nat × Nat × Nat)}
    (hy : plainName y.cls = true) (hw : ws = Cond.codeWith y cc maxL ret hh :: ws')
    (body : ∀ p e s m args below meth c s₁, BodyLoose p l y (headSpec ws rm) cc maxL ret e s m args below meth c s₁ → c.maxLocals = maxL → Pc args s →
      W p l e (headSpec ws rm).room s m args below meth c s.heap [] 0 0 (MQ below Qc args s mc ms free) (entryFrame m args maxL)) : Met l y ws rm Pc Qc mc ms free := by
  refine MetFree.of_bodyS (code := cc) (maxLocals := maxL) (ret := ret) hy ?_ ?_
  · intro args s m h hn
    obtain ⟨m9, meth, c, hn9, h1, h2, h3, h4, -, h5, h6, -⟩ := Cond.codeWith_spec (atoms_spec (ws := ws) h _ (by rw [hw]; exact List.mem_cons_self))
    cases hn.symm.trans hn9
    exact ⟨meth, c, h1, h2, h3, h4, h5, h6⟩
  · intro p e s m args below meth c s₁ B hml hP _
    have hh0 : s₁.heap = s.heap := by rw [B.state]; rfl
    obtain ⟨t, a1, o, b1, b2, b3⟩ := body p e s m args below meth c s₁ B hml hP s₁ hh0 (Stand.of_body B)
    exact ⟨t, o, a1, b1, b2, ⟨b3.1, b3.2⟩⟩
theorem hp_0 {P : ExceptionTableEntry → Prop} : ∀ z ∈ ([] : List ExceptionTableEntry), P z := fun z h => by cases h
theorem hp_1 {P : ExceptionTableEntry → Prop} {x : ExceptionTableEntry} {L : List ExceptionTableEntry} (h : P x) (t : ∀ z ∈ L, P z) : ∀ z ∈ x :: L, P z := fun z hz => by
  rcases List.mem_cons.mp hz with rfl | q
  · exact h
  · exact t z q
theorem gSW {own : String} {i : Nat} {y : MethodName} {c : ByteArray} {n : Nat} {r : Option FieldType} {hh : List (Nat × Nat × Nat × Nat)} (h1 : Cond.methodLink own i y ∈ lw_G) (h2 : Cond.static y ∈ lw_G) (h4 : Cond.initialized y.cls ∈ lw_G) (h5 : Cond.codeWith y c n r hh ∈ lw_G) : GoodIn lw_G (va_wsS own i y (wh_ y c n r hh)) := by
  intro w hw
  simp only [va_wsS, List.mem_append, List.mem_cons, List.not_mem_nil, or_false] at hw
  rcases hw with (e | e | e) | (e | e)
  · rw [e]; exact gIn h1
  · rw [e]; exact gIn h2
  · rw [e]; exact gIn h4
  · rw [e]; exact gIn h5
  · exact gIn e
/-- the script, over a method's start -/
def wPreX (b L : Nat) (xs : Nat → Int32) (D : va_G) (cI cZ cJ cK : ClassId) (sz : Nat) (ws : va_W) : State → Prop := fun U => wPre D cI cZ cJ cK sz ws U ∧ va_X b L xs U U.heap
theorem wPreX_blind {b L : Nat} {xs : Nat → Int32} {D : va_G} {cI cZ cJ cK : ClassId} {sz : Nat} {ws : va_W} {av : List Value} : FrameBlind (va_Pc av (wPreX b L xs D cI cZ cJ cK sz ws)) := by
  intro b9 U g mk q
  have h1 := wPre_blind (D := D) (cI := cI) (cZ := cZ) (cJ := cJ) (cK := cK) (sz := sz) (ws := ws) (av := av) b9 U g mk ⟨q.1, q.2.1⟩
  exact ⟨h1.1, h1.2, va_X.moved (u := U) (U := U.calling g mk b9) (Vm.Alike.refl U.vm) q.2.2⟩
theorem psX {b L : Nat} {xs : Nat → Int32} {D : va_G} {cI cZ cJ cK : ClassId} {ws wc wr : va_W} {s : State} {A0 B : Nat → Prop} {H : Heap} {locs : List Loc} {As : List Value} (hP : va_P D vwCl ws H) (hD : va_D B ws) (hK : va_K D vwCl (KT cI cZ cJ cK) s) (hT : TW s) (hZ : ZW A0 s s.heap) (hS : va_S A0 s.heap H locs) (hX : va_X b L xs s s.heap) (hbl : b < s.heap.size) (hbA : ¬ A0 b) (hC : ws.Perm (wr ++ wc)) :
    PreS s H (va_Pc As (wPreX b L xs D cI cZ cJ cK H.size wc)) As :=
  ⟨wPreX_blind, fun U hU hW => ⟨rfl, wPre_now (ap_P (pm_P hP hC)).2 (ap_D (pm_D hD hC)).2 hK hT hZ hS U hU hW, by rw [hU]; exact (hX.kept (hS.2.1 b hbl hbA)).moved hW.alike⟩⟩
section LAWR
variable {p : Program} {l : Launch} {e : Env} {R : Room} {s : State} {m : MethodId} {args : Array Value} {below : List Frame} {meth : Method} {c : Code} {H : Heap} {locs : List Loc} {cells slots : Nat} {Q : State → Prop}
variable {cc : ByteArray} {pc : Nat} {ls : Array Slot} {rest st0 : List Value} {D : va_G} {A A0 : Nat → Prop} {a : Array Value} {ws wc wr : va_W} {H0 : Heap} {mc ms : Nat}
theorem lz_sld (hexec : p.tables.exec = Jvm.exec) (hb : c.code = cc) {b L : Nat} {xs : Nat → Int32} (hX : va_X b L xs s H0) (hbl : b < H0.size) (hbA : ¬ A b) (hS : va_S A H0 H locs) {i : Int32} {z : Int} (hi : i = iI z) (k : Nat) (hk : z = (k : Int)) (hlt : k < L) (hn : L < 2147483648) (hdg : decode cc pc = .ok (.iaload, 1))
    (kk : ∀ x : Int32, x = xs k → W p l e R s m args below meth c H locs cells slots Q (F0 m (pc + 1) ls (.int x :: rest))) : W p l e R s m args below meth c H locs cells slots Q (F0 m pc ls (.int i :: .ref b :: rest)) := by
  subst hi
  refine va_sld hexec hb hX hbl hbA hS (iI_in k hk hlt hn) hdg ?_
  rw [iI_cl k hk (by omega)]
  exact kk _ rfl
theorem cpx_i {S : Type} {w1 ws2 : S → va_W} {post : Int32 → S → Prop} {pX : String → Prop} (hr : vx_Run p l e R s m args below meth c H locs cells slots mc ms (F0 m pc ls st0) rest (va_Qi post (fun (u : S) t => wPost D (va_A wc H.size) (w1 u) t) (va_A wc H.size) a) (vx_X (fun (_ : Unit) => True) (fun E _ _ => pX E) (fun _ => False)) (va_A wc H.size)) (hS : va_S A0 H0 H locs) (hP : va_P D vwCl ws H) (hD : va_D A0 ws) (hA : ∀ q, H0.size ≤ q → A0 q) (hC : ws.Perm (wr ++ wc)) (hB : ∀ u, (wr ++ w1 u).Perm (ws2 u))
    (kx : ∀ (E : String) (ce : Cell) (q9 : Addr) (H1 : Heap) (locs1 : List Loc), pX E → va_P D vwCl ws H1 → va_S A0 H0 H1 locs1 → H1[q9]? = some ce → ce.vm = .none → s.vm.findClass E = some ce.cls → vx_W p l e R s m args below meth c H1 locs1 (cells + mc) (slots + ms) Q (F0 m pc ls rest) q9)
    (kk : ∀ (r : Int32) (u : S) (H1 : Heap) (locs1 : List Loc), post r u → va_P D vwCl (ws2 u) H1 → va_D A0 (ws2 u) → va_S A0 H0 H1 locs1 → W p l e R s m args below meth c H1 locs1 (cells + mc) (slots + ms) Q (F0 m (pc + 3) ls (.int r :: rest))) : W p l e R s m args below meth c H locs cells slots Q (F0 m pc ls st0) := by
  have hF := pm_free hD hS hA hC
  refine vx_calli hr hS (fun q _ h => hF q h) hF (fun _ _ h => h.elim) (fun E ce q9 u t H1 locs1 _ _ _ hp _ hk h3 g1 g2 g3 => kx E ce q9 H1 locs1 hp (hP.kept fun k q hq => hk q.1 (hP k q hq).lt (fun z => z)) h3 g1 g2 g3) (fun r u t H1 locs1 ht _ hp hB9 _ hk h3 => by
    obtain ⟨hP1, hD1⟩ := hB9
    rw [ht] at hP1
    obtain ⟨k1, k2⟩ := pm_join (pm_P hP hC) (pm_D hD hC) hk hF hP1 hD1
    exact kk r u H1 locs1 hp (pm_P k1 (hB u)) (pm_D k2 (hB u)) h3)
end LAWR
/-! how the law's hearths follow the class -/
abbrev SMA (cI cJ cK : ClassId) (Z : va_AS) (lw rk hs em : Nat) (L : List Nat) (f : Nat → va_E) : Prop := SimP cI cJ cK (aN Z) (aH Z) (aM Z) (aK Z) (aL Z) (aG Z) (rwA Z) lw rk hs em L f
section SM
variable {cI cJ cK : ClassId} {Z : va_AS} {lw rk hs em : Nat} {L : List Nat} {f : Nat → va_E} {h : Nat}
theorem upd_1 (g : Nat → Int32) (h : Nat) : upd g h (g h + iI 1) = upd g h (g h + 1) := rfl
theorem SM_rak0 (hI : AI Z) (hh : h < 2) (hne : aR Z h ≠ []) (hf : rkF (aL Z h) (aH Z) (aR Z h) = 0) (w : SimP cI cJ cK (aN Z) (aH Z) (aM Z) (va_up (aK Z) ((rwA Z h 0).getD 0 0) 1) (aL Z) (upd (aG Z) h (aG Z h + iI 1)) (va_up (rwA Z) h (va_up (rwA Z h) 0 ((rwA Z h 0).filter (fun y => decide (y ≠ (rwA Z h 0).getD 0 0))))) lw rk hs em L f) : SMA cI cJ cK (rakA Z h) lw rk hs em L f ∧ aT Z = aT (rakA Z h) := by
  obtain ⟨g1, g2, g3, g4, g5⟩ := RS_rak0 hI hh hne hf
  rw [g1] at w
  refine ⟨w.cg (fun e he => ⟨rfl, ?_, rfl⟩) (fun k hk => ⟨?_, rfl⟩) (fun k b hk hb => g5 k b), ?_⟩
  · show mvA 1 (aM Z) (rkB (aL Z h) (aH Z) (aR Z h)) e = aM Z e
    rw [g4]
    rfl
  · show va_up (aL Z) h (rkLo (aL Z h) (aH Z) (aR Z h)) k = aL Z k
    rw [g3]
    by_cases c : k = h
    · subst c
      rw [va_up_self]
    · rw [va_up_ne _ _ c]
  · show aT Z = aT Z + iI ↑(rkB (aL Z h) (aH Z) (aR Z h)).length
    rw [g4]
    exact (iI_z _).symm
theorem SM_rakp (hI : AI Z) (hh : h < 2) (hne : aR Z h ≠ []) (hf : rkF (aL Z h) (aH Z) (aR Z h) ≠ 0) {B : List Nat} (eB : B = rwA Z h (rkF (aL Z h) (aH Z) (aR Z h))) {R2 : Nat → Nat → List Nat} (eR : R2 = mvR (ka (minL (aH Z) B) (aH Z)) h (va_up (rwA Z) h (va_up (rwA Z h) (rkF (aL Z h) (aH Z) (aR Z h)) [])) B) (w : SimP cI cJ cK (aN Z) (aH Z) (mvA 1 (aM Z) B) (va_up (aK Z) ((R2 h 0).getD 0 0) 1) (va_up (aL Z) h (minL (aH Z) B)) (upd (aG Z) h (aG Z h + iI 1)) (va_up R2 h (va_up (R2 h) 0 ((R2 h 0).filter (fun y => decide (y ≠ (R2 h 0).getD 0 0))))) lw rk hs em L f) : SMA cI cJ cK (rakA Z h) lw rk hs em L f ∧ aT Z + iI ↑B.length = aT (rakA Z h) := by
  subst eB
  obtain ⟨g1, g2, g3, g4, g5, g6, g7, g8⟩ := RS_rakp hI hh hne rfl hf eR
  rw [g1] at w
  refine ⟨w.cg (fun e he => ⟨rfl, ?_, rfl⟩) (fun k hk => ⟨?_, rfl⟩) (fun k b hk hb => g8 k b), ?_⟩
  · show mvA 1 (aM Z) (rkB (aL Z h) (aH Z) (aR Z h)) e = mvA 1 (aM Z) (rwA Z h (rkF (aL Z h) (aH Z) (aR Z h))) e
    rw [g6]
  · show va_up (aL Z) h (rkLo (aL Z h) (aH Z) (aR Z h)) k = va_up (aL Z) h (minL (aH Z) (rwA Z h (rkF (aL Z h) (aH Z) (aR Z h)))) k
    rw [g5]
  · show _ = aT Z + iI ↑(rkB (aL Z h) (aH Z) (aR Z h)).length
    rw [g6]
theorem SM_rai (hI : AI Z) (hh : h < 2) {x : Nat} {B : List Nat} (eB : B = aR Z h) (w : SimP cI cJ cK (aN Z) (aH Z) (mvA 1 (aM Z) B) (aK Z) (va_up (aL Z) h x) (aG Z) (mvR (ka x (aH Z)) h (va_up (rwA Z) h (fun _ => [])) B) lw rk hs em L f) : SMA cI cJ cK (raiA Z h x) lw rk hs em L f := by
  subst eB
  exact w.cg (fun e he => ⟨rfl, rfl, rfl⟩) (fun k hk => ⟨rfl, rfl⟩) (fun k b hk hb => RS_rai k b)
theorem SM_pou (hI : AI Z) (hh : h < 2) {B : List Nat} (eB : B = aR Z h) (w : SimP cI cJ cK (aN Z) (aH Z) (mvA 1 (aM Z) B) (aK Z) (va_up (aL Z) h 0) (aG Z) (mvR (ka (aL Z (1 - h)) (aH Z)) (1 - h) (va_up (rwA Z) h (fun _ => [])) B) lw rk hs em L f) : SMA cI cJ cK (pouA Z h) lw rk hs em L f := by
  subst eB
  exact w.cg (fun e he => ⟨rfl, rfl, rfl⟩) (fun k hk => ⟨rfl, rfl⟩) (fun k b hk hb => RS_pou hI hh k b hk)
theorem SM_que (hI : AI Z) (hh : h < 2) {eb : Nat} (he : eb ∈ aR Z h) (w : SimP cI cJ cK (aN Z) (aH Z) (aM Z) (aK Z) (aL Z) (aG Z) (va_up (rwA Z) h (va_up (rwA Z h) (bk (aL Z h) (aH Z eb)) ((rwA Z h (bk (aL Z h) (aH Z eb))).filter (fun y => decide (y ≠ eb))))) lw rk hs em L f) : SMA cI cJ cK (queA Z h eb) lw rk hs em L f :=
  w.cg (fun e he => ⟨rfl, rfl, rfl⟩) (fun k hk => ⟨rfl, rfl⟩) (fun k b hk hb => RS_que hI hh he k b)
theorem SM_fad (hI : AI Z) (hh : h < 2) {eb x : Nat} (he : eb ∈ aR Z h) (w : SimP cI cJ cK (aN Z) (va_up (aH Z) eb x) (aM Z) (aK Z) (aL Z) (aG Z) (putR (ka (aL Z h) (va_up (aH Z) eb x)) h (va_up (rwA Z) h (va_up (rwA Z h) (bk (aL Z h) (aH Z eb)) ((rwA Z h (bk (aL Z h) (aH Z eb))).filter (fun y => decide (y ≠ eb))))) eb) lw rk hs em L f) : SMA cI cJ cK (fadA Z h eb x) lw rk hs em L f :=
  w.cg (fun e he => ⟨rfl, rfl, rfl⟩) (fun k hk => ⟨rfl, rfl⟩) (fun k b hk hb => RS_fad hI hh he k b hk)
theorem SM_lit (hI : AI Z) (hh : h < 2) {x : Nat} (hx : x < 1024) (hl : aL Z h ≤ x) (hn : aN Z < 40) (w : SimP cI cJ cK (aN Z + 1) (va_up (aH Z) (aN Z) x) (aM Z) (aK Z) (aL Z) (aG Z) (putR (ka (aL Z h) (va_up (aH Z) (aN Z) x)) h (rwA Z) (aN Z)) lw rk hs em L f) : SMA cI cJ cK (litA Z h x) lw rk hs em L f :=
  w.cg (fun e he => ⟨rfl, rfl, rfl⟩) (fun k hk => ⟨rfl, rfl⟩) (fun k b hk hb => RS_lit hI hh hx hl hn k b hk hb)
/-! where an ember lies -/
theorem rw_mem {e b : Nat} : e ∈ rwA Z h b ↔ e ∈ aR Z h ∧ bk (aL Z h) (aH Z e) = b := bkL_mem
theorem rw_bd (hI : AI Z) : ∀ h b, h < 2 → b < 11 → (∀ y ∈ rwA Z h b, y < 1000) ∧ (rwA Z h b).length ≤ 40 := by
  intro h b hh hb
  refine ⟨fun y hy => ?_, rw40 hI h hh b⟩
  have h1 := (AI_len hI hh).2.1 y (rw_mem.mp hy).1
  have h2 := hI.1
  omega
theorem rw_uq (hI : AI Z) {e b : Nat} (hh : h < 2) (he : e ∈ rwA Z h b) : ∀ h2 b2, h2 < 2 → b2 < 11 → e ∈ rwA Z h2 b2 → h2 = h ∧ b2 = b := by
  intro h2 b2 hh2 hb2 he2
  obtain ⟨a1, a2⟩ := rw_mem.mp he
  obtain ⟨c1, c2⟩ := rw_mem.mp he2
  have e1 := ((hI.2.2.1 h hh).1 e).mp a1
  have e2 := ((hI.2.2.1 h2 hh2).1 e).mp c1
  have e3 : h2 = h := by
    have := e1.2.symm.trans e2.2
    omega
  subst e3
  exact ⟨rfl, c2.symm.trans a2⟩
theorem rw_in (hI : AI Z) (hh : h < 2) {e : Nat} (he : e ∈ aR Z h) : bk (aL Z h) (aH Z e) < 11 ∧ e ∈ rwA Z h (bk (aL Z h) (aH Z e)) ∧ e < aN Z ∧ aV Z e = ↑h ∧ aL Z h ≤ aH Z e ∧ aH Z e < 1024 := by
  obtain ⟨j1, j2, j3⟩ := hI.2.2.1 h hh
  have k1 := (j1 e).mp he
  have k2 := j2.2.2 e he
  exact ⟨Nat.lt_succ_of_le (bk_le10 j3 k2.2), rw_mem.mpr ⟨he, rfl⟩, k1.1, k1.2, k2.1, k2.2⟩
theorem rw_no (hI : AI Z) {e : Nat} (hn : e < aN Z) (h9 : ∀ h b, h < 2 → b < 11 → e ∉ rwA Z h b) : aV Z e = -1 := by
  have h1 := hI.2.1 e hn
  have h2 : ∀ k : Nat, k < 2 → aV Z e ≠ ↑k := by
    intro k hk q
    have h3 := ((hI.2.2.1 k hk).1 e).mpr ⟨hn, q⟩
    obtain ⟨g1, g2, -⟩ := rw_in hI hk h3
    exact h9 k _ hk g1 g2
  have h3 := h2 0 (by decide)
  have h4 := h2 1 (by decide)
  omega
end SM
