/-! throws of the class RadixHearth, in one row -/
abbrev lw_nm : List String := ["java/lang/RuntimeException", "java/lang/Exception"]
theorem lw_nm_fit : ∀ n ∈ lw_nm, Bundle.fit n = true := by decide +kernel
theorem lw_traces {l : Launch} (h : l.flags = flags0) : l.stackTraces = false := by
  unfold Launch.stackTraces
  rw [h]
  decide +kernel
theorem lw_isN_ot {w : Cond} (h : lw_isN w = true) : w.onTables = true := by
  cases w <;> first | (cases h; done) | rfl
def lw_atOk (w : Cond) : Bool := decide (w ∈ lw_tbl) && (goodWord w || lw_isN w)
theorem lw_at_use {args : Array Value} {s : State} (hts : ∀ w ∈ lw_G, w.before args s = true) (hT : TW s) {L : List Cond} (h : L.all lw_atOk = true) : ∀ w ∈ L, w.before args s = true := by
  intro w hw
  have h1 := List.all_eq_true.mp h w hw
  simp only [lw_atOk, Bool.and_eq_true, Bool.or_eq_true, decide_eq_true_eq] at h1
  obtain ⟨h2, h3 | h3⟩ := h1
  · exact hts w (List.mem_filter.mpr ⟨h2, h3⟩)
  · exact va_Nw.use (lw_isN_ot h3) (hT.1 w (List.mem_filter.mpr ⟨h2, h3⟩))
theorem lw_at_ot {L : List Cond} (h : L.all lw_atOk = true) : ∀ w ∈ L, vx_ot w = true := by
  intro w hw
  have h1 := List.all_eq_true.mp h w hw
  simp only [lw_atOk, Bool.and_eq_true, Bool.or_eq_true, decide_eq_true_eq] at h1
  obtain ⟨h2, h3 | h3⟩ := h1
  · simp [vx_ot, h3]
  · simp [vx_ot, lw_isN_ot h3]
abbrev xI : String := "java/lang/IndexOutOfBoundsException"
abbrev xA : String := "java/lang/IllegalArgumentException"
abbrev xS : String := "java/lang/IllegalStateException"
theorem at_I : (Cond.classLink RX3 134 xI :: Cond.initialized xI :: vx_atS RX3 138 xI lw_nm).all lw_atOk = true := by decide +kernel
theorem at_A : (Cond.classLink RX3 39 xA :: Cond.initialized xA :: vx_atS RX3 43 xA lw_nm).all lw_atOk = true := by decide +kernel
theorem at_S : (Cond.classLink RX3 50 xS :: Cond.initialized xS :: vx_atS RX3 54 xS lw_nm).all lw_atOk = true := by decide +kernel
section THR
variable {p : Program} {l : Launch} {e : Env} {R : Room} {s : State} {m : MethodId} {args : Array Value} {below : List Frame} {meth : Method} {c : Code} {H : Heap} {locs : List Loc} {cells slots : Nat}
variable {cc : ByteArray} {pc : Nat} {ls : Array Slot} {rest : List Value} {A : Nat → Prop} {Qc : Array Value → State → Outcome → State → Prop} {XC : String → State → State → Prop} {free : Addr → Prop} {mc ms : Nat}
theorem lz_throw (hexec : p.tables.exec = Jvm.exec) (hb : c.code = cc) (hl : l.stackTraces = false) {cls text : String} {ik is ic : Nat} (hown : s.vm.findClass RX3 = some m.cls) (hts : ∀ w ∈ lw_G, w.before args s = true) (hT : TW s) (hZ : ZW A s s.heap) (hS : va_S A s.heap H locs) (hsize : ls.size = c.maxLocals)
    (hcls : Bundle.fit cls = true) (hat : (Cond.classLink RX3 ik cls :: Cond.initialized cls :: vx_atS RX3 ic cls lw_nm).all lw_atOk = true) (hst : (is, text) ∈ lw_St)
    (d0 : decode cc pc = .ok (.new ik, 3)) (d3 : decode cc (pc + 3) = .ok (.dup, 1)) (d4 : decode cc (pc + 4) = .ok (.ldc is, 2)) (d6 : decode cc (pc + 6) = .ok (.invokespecial ic, 3)) (d9 : decode cc (pc + 9) = .ok (.athrow, 1))
    (hout : ∀ x ∈ c.exceptionTable.toList, covers x (pc + 9) = false)
    (hRframes : 5 < R.frames) (hRlocals : (rest.map fun v => v.category).sum + 82 ≤ R.locals) (hRcells : cells + 1 ≤ R.cells) (hRslots : slots + 6 ≤ R.slots) (hlocks : meth.locks = false)
    (hx : ∀ t : State, s.vm.Alike t.vm → H.size ≤ t.heap.size → (∀ q : Nat, q < H.size → t.heap[q]? = H[q]?) → XC cls s t)
    (hf : ∀ z ∈ locs, free z.base) (hc : cells + 1 ≤ mc) (hs : slots + 6 ≤ ms) :
    W p l e R s m args below meth c H locs cells slots (vx_MQ below Qc XC args s mc ms free) (F0 m pc ls rest) := by
  obtain ⟨sa, hsa⟩ := hT.2.1 _ hst
  have h1 := lw_at_use hts hT hat
  exact vx_throwS hexec hb hl hown hcls lw_nm_fit (h1 _ List.mem_cons_self) (h1 _ (List.mem_cons_of_mem _ List.mem_cons_self)) hsa (fun w hw => h1 w (List.mem_cons_of_mem _ (List.mem_cons_of_mem _ hw))) (lw_at_ot hat) hZ.1 hZ.2 hS hsize d0 d3 d4 d6 d9 hout hRframes hRlocals hRcells hRslots hlocks hx hf hc hs
theorem lz_throwW (hexec : p.tables.exec = Jvm.exec) (hb : c.code = cc) (hl : l.stackTraces = false) {cls text : String} {ik is ic : Nat} (hown : s.vm.findClass RX3 = some m.cls) (hts : ∀ w ∈ lw_G, w.before args s = true) (hT : TW s) (hZ : ZW A s s.heap) (hS : va_S A s.heap H locs) (hsize : ls.size = c.maxLocals)
    (hcls : Bundle.fit cls = true) (hat : (Cond.classLink RX3 ik cls :: Cond.initialized cls :: vx_atS RX3 ic cls lw_nm).all lw_atOk = true) (hst : (is, text) ∈ lw_St)
    (d0 : decode cc pc = .ok (.new ik, 3)) (d3 : decode cc (pc + 3) = .ok (.dup, 1)) (d4 : decode cc (pc + 4) = .ok (.ldc_w is, 3)) (d6 : decode cc (pc + 7) = .ok (.invokespecial ic, 3)) (d9 : decode cc (pc + 10) = .ok (.athrow, 1))
    (hout : ∀ x ∈ c.exceptionTable.toList, covers x (pc + 10) = false)
    (hRframes : 5 < R.frames) (hRlocals : (rest.map fun v => v.category).sum + 82 ≤ R.locals) (hRcells : cells + 1 ≤ R.cells) (hRslots : slots + 6 ≤ R.slots) (hlocks : meth.locks = false)
    (hx : ∀ t : State, s.vm.Alike t.vm → H.size ≤ t.heap.size → (∀ q : Nat, q < H.size → t.heap[q]? = H[q]?) → XC cls s t)
    (hf : ∀ z ∈ locs, free z.base) (hc : cells + 1 ≤ mc) (hs : slots + 6 ≤ ms) :
    W p l e R s m args below meth c H locs cells slots (vx_MQ below Qc XC args s mc ms free) (F0 m pc ls rest) := by
  obtain ⟨sa, hsa⟩ := hT.2.1 _ hst
  have h1 := lw_at_use hts hT hat
  exact vx_throwSW hexec hb hl hown hcls lw_nm_fit (h1 _ List.mem_cons_self) (h1 _ (List.mem_cons_of_mem _ List.mem_cons_self)) hsa (fun w hw => h1 w (List.mem_cons_of_mem _ (List.mem_cons_of_mem _ hw))) (lw_at_ot hat) hZ.1 hZ.2 hS hsize d0 d3 d4 d6 d9 hout hRframes hRlocals hRcells hRslots hlocks hx hf hc hs
end THR
