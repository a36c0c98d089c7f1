/-! the law's own methods: bodies with handlers; what is no exception of which -/
theorem nw159 : Cond.castable xI xI ∈ lw_N := List.mem_filter.mpr ⟨List.mem_of_getElem? (i := 177) (by decide +kernel), rfl⟩
theorem nw323 : Cond.castable xA xA ∈ lw_N := List.mem_filter.mpr ⟨List.mem_of_getElem? (i := 341) (by decide +kernel), rfl⟩
theorem nw339 : Cond.castable xS xS ∈ lw_N := List.mem_filter.mpr ⟨List.mem_of_getElem? (i := 357) (by decide +kernel), rfl⟩
abbrev wh_ (y : MethodName) (c : ByteArray) (n : Nat) (r : Option FieldType) (hh : List (Nat × Nat × Nat × Nat)) : List Cond := .codeWith y c n r hh :: lw_G
theorem va_ofWH {l : Launch} {y : MethodName} {ws ws' : List Cond} {rm : Room} {Pc : Array Value → State → Prop} {Qc : Array Value → State → Outcome → State → Prop} {mc ms : Nat} {free : Addr → Prop} {cc : ByteArray} {maxL : Nat} {ret : Option FieldType} {hh : List (Nat × Nat × Nat × Nat)}
    (hy : plainName y.cls = true) (hw : ws = Cond.codeWith y cc maxL ret hh :: ws')
    (body : ∀ p e s m args below meth c s₁, BodyLoose p l y (headSpec ws rm) cc maxL ret e s m args below meth c s₁ → c.maxLocals = maxL → Pc args s →
      W p l e (headSpec ws rm).room s m args below meth c s.heap [] 0 0 (MQ below Qc args s mc ms free) (entryFrame m args maxL)) : Met l y ws rm Pc Qc mc ms free := by
  refine MetFree.of_bodyS (code := cc) (maxLocals := maxL) (ret := ret) hy ?_ ?_
  · intro args s m h hn
    obtain ⟨m9, meth, c, hn9, h1, h2, h3, h4, -, h5, h6, -⟩ := Cond.codeWith_spec (atoms_spec (ws := ws) h _ (by rw [hw]; exact List.mem_cons_self))
    cases hn.symm.trans hn9
    exact ⟨meth, c, h1, h2, h3, h4, h5, h6⟩
  · intro p e s m args below meth c s₁ B hml hP _
    have hh0 : s₁.heap = s.heap := by rw [B.state]; rfl
    obtain ⟨t, a1, o, b1, b2, b3⟩ := body p e s m args below meth c s₁ B hml hP s₁ hh0 (Stand.of_body B)
    exact ⟨t, o, a1, b1, b2, ⟨b3.1, b3.2⟩⟩
def NW (U : State) : Prop := (va_Nc xI xA U ∧ va_Nc xI xS U) ∧ (va_Nc xA xI U ∧ va_Nc xA xS U) ∧ va_Nc xS xI U ∧ va_Nc xS xA U
theorem NW.moved {u U : State} (hv : u.vm.Alike U.vm) (h : NW u) : NW U := ⟨⟨h.1.1.moved hv, h.1.2.moved hv⟩, ⟨h.2.1.1.moved hv, h.2.1.2.moved hv⟩, h.2.2.1.moved hv, h.2.2.2.moved hv⟩
def wPreN (D : va_G) (cI cZ cJ : ClassId) (sz : Nat) (ws : va_W) : State → Prop := fun U => wPre D cI cZ cJ sz ws U ∧ NW U
theorem wPreN_blind {D : va_G} {cI cZ cJ : ClassId} {sz : Nat} {ws : va_W} {av : List Value} : FrameBlind (va_Pc av (wPreN D cI cZ cJ sz ws)) := by
  intro b U g mk q
  have h1 := wPre_blind (D := D) (cI := cI) (cZ := cZ) (cJ := cJ) (sz := sz) (ws := ws) (av := av) b U g mk ⟨q.1, q.2.1⟩
  exact ⟨h1.1, h1.2, NW.moved (u := U) (U := U.calling g mk b) (Vm.Alike.refl U.vm) q.2.2⟩
theorem psN {D : va_G} {cI cZ cJ : ClassId} {ws wc : va_W} {s : State} {A0 B : Nat → Prop} {H : Heap} {locs : List Loc} {As : List Value} (hP : va_P D vwCl ws H) (hD : va_D B ws) (hK : va_K D vwCl (KT cI cZ cJ) s) (hT : TW s) (hZ : ZW A0 s s.heap) (hN : NW s) (hS : va_S A0 s.heap H locs) (is : List Nat) (hi : is.map (fun i => ws[i]?) = wc.map some) (hn : va_nd is = true) :
    PreS s H (va_Pc As (wPreN D cI cZ cJ H.size wc)) As :=
  ⟨wPreN_blind, fun U hU hW => ⟨rfl, wPre_now (va_P_subm hP is hi) (hD.sub is hn hi) hK hT hZ hS U hU hW, hN.moved hW.alike⟩⟩
theorem hp_0 {P : ExceptionTableEntry → Prop} : ∀ z ∈ ([] : List ExceptionTableEntry), P z := fun z h => by cases h
theorem hp_1 {P : ExceptionTableEntry → Prop} {x : ExceptionTableEntry} {L : List ExceptionTableEntry} (h : P x) (t : ∀ z ∈ L, P z) : ∀ z ∈ x :: L, P z := fun z hz => by
  rcases List.mem_cons.mp hz with rfl | q
  · exact h
  · exact t z q
/-- the class's cells, held against the state that both sides keep -/
def CSt (A : va_AS) (el : Int32) (fh fo fm fr : Nat → Int32) (zn zl zm zk zsz : Int32) (zf zsf : Nat → Int32) (on ol om ok osz : Int32) (of osf : Nat → Int32) (tn qn : Int32) : Prop :=
  embIs el fh A.1 A.2.1 ∧ (∀ i, i < A.1 → fo i = iI (A.2.2.1 i)) ∧ fm = A.2.2.2.2.2.2.1 ∧ (∀ i, i < 40 → fr i = iI (A.2.2.2.2.2.1 i)) ∧ (zn = iI 1 ∧ on = iI 1 ∧ tn = iI 0) ∧ heaIs zl zsz zf zsf (A.2.2.2.1 0) A.1 A.2.1 (A.2.2.2.2.1 0) ∧ heaIs ol osz of osf (A.2.2.2.1 1) A.1 A.2.1 (A.2.2.2.2.1 1) ∧
  zm + om = A.2.2.2.2.2.2.2.2.1 ∧ zk = A.2.2.2.2.2.2.2.1 0 ∧ ok = A.2.2.2.2.2.2.2.1 1 ∧ qn = A.2.2.2.2.2.2.2.2.2
