/-! new int[n][0]: the outer row, and n empty ones -/
def mo_out (c : ClassId) (N h0 i : Nat) : Cell := arrV c N (fun j => va_rf (if j < i then some (h0 + 1 + j) else none))
theorem mo_out_s (c : ClassId) (N h0 i : Nat) : (mo_out c N h0 i).setSlot i (.ref (h0 + 1 + i)) = mo_out c N h0 (i + 1) := by
  unfold mo_out
  rw [arrV_store]
  refine congrArg (arrV c N) (funext fun j => ?_)
  by_cases e : j = i
  · subst e
    simp [updV, va_rf]
  · by_cases h : j < i
    · simp [updV, e, h, Nat.lt_succ_of_lt h]
    · simp [updV, e, h, show ¬ j < i + 1 by omega]
def mo_in (cB : ClassId) : Cell := { cls := cB, slots := Array.replicate 0 (.int 0), vm := .none }
def mo_fill (s : State) (c cB : ClassId) (N : Nat) : Nat → State
  | 0 => s.pushCell (mo_out c N s.heap.size 0)
  | i + 1 => ((mo_fill s c cB N i).pushCell (mo_in cB)).setCell s.heap.size (mo_out c N s.heap.size (i + 1))
theorem mo_fill_facts (s : State) (c cB : ClassId) (N : Nat) : ∀ i, (mo_fill s c cB N i).heap.size = s.heap.size + 1 + i ∧ (mo_fill s c cB N i).heap[s.heap.size]? = some (mo_out c N s.heap.size i) ∧ (mo_fill s c cB N i).vm = s.vm ∧ (mo_fill s c cB N i).slotsUsed = s.slotsUsed + N
  | 0 => ⟨by simp [mo_fill], by simp [mo_fill], rfl, by simp [mo_fill, mo_out, arrV_size]⟩
  | i + 1 => by
    obtain ⟨a, b, d, u⟩ := mo_fill_facts s c cB N i
    have hlt : s.heap.size < (mo_fill s c cB N i).heap.size := by omega
    have hb' : ((mo_fill s c cB N i).pushCell (mo_in cB)).heap[s.heap.size]? = some (mo_out c N s.heap.size i) := by rw [State.heap_pushCell_of_lt (h := hlt)]; exact b
    refine ⟨?_, State.heap_setCell_self hb', by simp [mo_fill, d], ?_⟩
    · simp [mo_fill, State.setCell, a]; omega
    · simp [mo_fill, u, mo_in]
theorem mo_fill_setTop (s : State) (f : JFrame) (c cB : ClassId) (N : Nat) : ∀ i, mo_fill (s.setTop f) c cB N i = (mo_fill s c cB N i).setTop f
  | 0 => rfl
  | i + 1 => by simp only [mo_fill, mo_fill_setTop s f c cB N i, State.heap_setTop, State.pushCell_setTop, State.setCell_setTop]
theorem mo_fill_old (s : State) (c cB : ClassId) (N : Nat) {a : Nat} (ha : a < s.heap.size) : ∀ i, (mo_fill s c cB N i).heap[a]? = s.heap[a]?
  | 0 => State.heap_pushCell_of_lt _ _ ha
  | i + 1 => by
    have f1 := (mo_fill_facts s c cB N i).1
    have hlt : a < (mo_fill s c cB N i).heap.size := by omega
    show (((mo_fill s c cB N i).pushCell (mo_in cB)).setCell s.heap.size _).heap[a]? = _
    rw [State.heap_setCell_other (Nat.ne_of_gt ha), State.heap_pushCell_of_lt (h := hlt)]
    exact mo_fill_old s c cB N ha i
theorem mo_fill_in (s : State) (c cB : ClassId) (N : Nat) : ∀ i j, j < i → (mo_fill s c cB N i).heap[s.heap.size + 1 + j]? = some (mo_in cB)
  | 0, _, h => absurd h (Nat.not_lt_zero _)
  | i + 1, j, h => by
    have f1 := (mo_fill_facts s c cB N i).1
    show (((mo_fill s c cB N i).pushCell (mo_in cB)).setCell s.heap.size _).heap[s.heap.size + 1 + j]? = _
    rw [State.heap_setCell_other (show s.heap.size ≠ s.heap.size + 1 + j by omega)]
    rcases Nat.lt_or_ge j i with hj | hj
    · have hlt : s.heap.size + 1 + j < (mo_fill s c cB N i).heap.size := by omega
      rw [State.heap_pushCell_of_lt (h := hlt)]
      exact mo_fill_in s c cB N i j hj
    · have e : j = i := by omega
      subst e
      rw [← f1]
      exact State.heap_pushCell_size _ _
theorem mo_fits (v : Value) (hv : v = .null ∨ ∃ a, v = .ref a) : fits (.array .int) v = true := by
  rcases hv with rfl | ⟨a, rfl⟩ <;> rfl
section MO
variable {E : CtlPost} {e : Env} {d : Bool} {acts : List Action} {s : State}
theorem mo_make {c cB ci : ClassId} {k kB : Class} {n : Int32} (hk : s.vm.classes[c]? = some k) (hkind : k.kind = .array cB (.array .int)) (hkB : s.vm.classes[cB]? = some kB) (hkindB : kB.kind = .array ci .int) (hn : ¬ n < 0)
    (hl : ¬ n.toNatClampNeg > e.platform.arrayLengthLimit) (hh : ¬ n.toNatClampNeg * componentBytes (.array .int) > e.platform.maxHeapBytes)
    (hc : s.heap.size + 1 + n.toNatClampNeg ≤ e.platform.maxCells) (hs : s.slotsUsed + n.toNatClampNeg ≤ e.platform.maxSlots)
    {Q : Addr → Pre} (hq : ∀ d' acts', Q s.heap.size d' acts' (mo_fill s c cB n.toNatClampNeg n.toNatClampNeg)) :
    wp (multianewarray.make c [n, 0]) Q E e d acts s := by
  have hfind : ([(0 : Int32)].find? (· < 0)) = none := by decide
  rw [multianewarray.make]
  simp only [wp_bind', W.ite, hn, if_false, wp_pure', W.theClass, hk, hkind, Option.some.injEq, exists_eq_left']
  refine W.newArray_of hk hkind hl hh (by omega) (by omega) (mo_fits _ (Or.inl rfl)) (fun acts1 => ?_)
  simp only [hfind]
  rw [ite_self, wp_bind', Std.Legacy.Range.forIn_eq_forIn_range']
  have hsz : ([:n.toNatClampNeg] : Std.Legacy.Range).size = n.toNatClampNeg := by simp [Std.Legacy.Range.size]
  rw [hsz]
  show wp (forIn (List.range' 0 n.toNatClampNeg 1) PUnit.unit _) _ E e d acts1 _
  refine wp_forIn_inv (fun rest s' => ∃ i, i ≤ n.toNatClampNeg ∧ rest = List.range' i (n.toNatClampNeg - i) ∧ s' = mo_fill s c cB n.toNatClampNeg i) _ _ ⟨0, Nat.zero_le _, rfl, ?_⟩ ?_ ?_
  · show s.pushCell _ = s.pushCell (mo_out c n.toNatClampNeg s.heap.size 0)
    congr 1
    show _ = arrV c n.toNatClampNeg _
    exact arrV_new c n.toNatClampNeg .null
  · rintro x rest s' d' acts' Q' ⟨i, hi, hl2, rfl⟩ hnext
    have hlt : i < n.toNatClampNeg := by
      rcases Nat.lt_or_ge i n.toNatClampNeg with h | h
      · exact h
      · rw [show n.toNatClampNeg - i = 0 from by omega] at hl2; simp at hl2
    obtain ⟨rfl, hrest⟩ : x = i ∧ rest = List.range' (i + 1) (n.toNatClampNeg - (i + 1)) := by
      rw [show n.toNatClampNeg - i = (n.toNatClampNeg - (i + 1)) + 1 from by omega, List.range'_succ] at hl2
      exact ⟨(List.cons.inj hl2).1, (List.cons.inj hl2).2⟩
    obtain ⟨f1, f2, f3, f4⟩ := mo_fill_facts s c cB n.toNatClampNeg x
    simp only [wp_bind']
    rw [multianewarray.make]
    simp only [wp_bind', W.ite, show ¬ (0 : Int32) < 0 from by decide, if_false, wp_pure', W.theClass, f3, hkB, hkindB, Option.some.injEq, exists_eq_left']
    refine W.newArray_of (by rw [f3]; exact hkB) hkindB (Nat.not_lt.mpr (Nat.zero_le _)) (by show ¬ 0 * _ > _; omega) (by rw [f1]; omega) (by show _ + 0 ≤ _; rw [f4]; omega) rfl (fun acts2 => ?_)
    have hlt0 : s.heap.size < (mo_fill s c cB n.toNatClampNeg x).heap.size := by rw [f1]; omega
    simp only [wp_bind', W.writeLoc, wp_pure']
    refine ⟨mo_out c n.toNatClampNeg s.heap.size x, by rw [State.heap_pushCell_of_lt (h := hlt0)]; exact f2, by simp [mo_out, arrV], by unfold mo_out; rw [arrV_size]; exact hlt, ?_, hnext _ _ _ ⟨x + 1, hlt, hrest, ?_⟩⟩
    · show State.fitsSlot _ c .none _ _ = true
      simp [State.fitsSlot, State.slotType?, f3, hk, hkind, mo_fits _ (Or.inr ⟨_, rfl⟩)]
    · rw [f1]
      show (_ : State).setCell _ ((mo_out c n.toNatClampNeg s.heap.size x).setSlot x _) = _
      rw [mo_out_s]
      rfl
  · rintro s' d' acts' ⟨i, hi, hl2, rfl⟩
    have hiN : i = n.toNatClampNeg := by
      rcases Nat.lt_or_ge i n.toNatClampNeg with h | h
      · rw [show n.toNatClampNeg - i = (n.toNatClampNeg - (i + 1)) + 1 from by omega, List.range'_succ] at hl2; cases hl2
      · omega
    subst hiN
    simp only [wp_pure']
    exact hq _ _
end MO
section MOW
variable {p : Program} {l : Launch} {e : Env} {R : Room} {s : State} {m : MethodId} {args : Array Value} {below : List Frame} {meth : Method} {c : Code} {H : Heap} {locs : List Loc} {cells slots : Nat} {Q : State → Prop} {T : State}
theorem mo_stand (X : Stand p l e R s m args below meth c T locs cells slots) (cA cB : ClassId) (N : Nat) : ∀ i, Stand p l e R s m args below meth c (mo_fill T cA cB N i) (locs ++ (List.range i).map fun j => ⟨T.heap.size, j⟩) (cells + 1 + i) (slots + N)
  | 0 => by
    have h := X.pushed (mo_out cA N T.heap.size 0)
    rw [show (mo_out cA N T.heap.size 0).slots.size = N from arrV_size _ _ _] at h
    simpa [mo_fill] using h
  | i + 1 => by
    have Xi := mo_stand X cA cB N i
    obtain ⟨f1, f2, f3, f4⟩ := mo_fill_facts T cA cB N i
    have hlt0 : T.heap.size < (mo_fill T cA cB N i).heap.size := by rw [f1]; omega
    have hcell : ((mo_fill T cA cB N i).pushCell (mo_in cB)).heap[T.heap.size]? = some (mo_out cA N T.heap.size i) := by rw [State.heap_pushCell_of_lt (h := hlt0)]; exact f2
    have h := (Xi.pushed (mo_in cB)).stored hcell i (.ref (T.heap.size + 1 + i))
    rw [mo_out_s] at h
    have e1 : (mo_in cB).slots.size = 0 := by simp [mo_in]
    rw [e1] at h
    have e2 : (locs ++ (List.range (i + 1)).map fun j => (⟨T.heap.size, j⟩ : Loc)) = (locs ++ (List.range i).map fun j => (⟨T.heap.size, j⟩ : Loc)) ++ [⟨T.heap.size, i⟩] := by simp [List.range_succ, List.append_assoc]
    rw [e2]
    exact h
theorem mo_mna (X : Stand p l e R s m args below meth c T locs cells slots) (hexec : p.tables.exec = Jvm.exec) {own : String} {index : Nat}
    (hown : s.vm.findClass own = some m.cls) (hclink : (Cond.classLink own index "[[I").before args s = true) (hover : (Cond.arrayOver (.array .int)).before args s = true) (harr : (Cond.arrayClass .int).before args s = true)
    {g : JFrame} (hg : g.method = m) (hdg : decode c.code g.pc = .ok (.multianewarray index 2, 4)) {n : Int32} {rest : List Value} (hstack : g.stack = .int 0 :: .int n :: rest)
    (hn : ¬ n < 0) (hb1 : n.toNatClampNeg ≤ 1000) (hcells : cells + (1 + n.toNatClampNeg) ≤ R.cells) (hslots : slots + n.toNatClampNeg ≤ R.slots) :
    ∃ (vm₁ : Vm) (cA cB : ClassId), s.WarmedH vm₁ ∧ s.vm.findClass "[[I" = some cA ∧ s.vm.findClass "[I" = some cB ∧
      Stand p l e R s m args below meth c (mo_fill (T.setVm vm₁) cA cB n.toNatClampNeg n.toNatClampNeg) (locs ++ (List.range n.toNatClampNeg).map fun j => ⟨T.heap.size, j⟩) (cells + 1 + n.toNatClampNeg) (slots + n.toNatClampNeg) ∧
      ∀ target, Steps p.tables e below ((mo_fill (T.setVm vm₁) cA cB n.toNatClampNeg n.toNatClampNeg).setTop { g with pc := g.pc + 4, stack := .ref T.heap.size :: rest }) target → Steps p.tables e below (T.setTop g) target := by
  subst hg
  have hpl : e.platform.magicAccessors = ({} : Platform).magicAccessors := by rw [X.admits.platform]
  obtain ⟨comp, cA, kA, hcomp, -, hkA, hkindA, hnameA⟩ := arrayOverA_spec hover
  obtain ⟨comp', kC, cc, hcomp', hkC, hkindC⟩ := Cond.arrayClass_spec harr
  have ecomp : comp' = comp := Option.some.inj (hcomp'.symm.trans hcomp)
  subst ecomp
  obtain ⟨c0, hfc0, hcl⟩ := Cond.classLink_spec hown hclink e.platform hpl
  have e0 : some cA = some c0 := hnameA.symm.trans hfc0
  cases e0
  obtain ⟨hg₁, hwarm₁, hready₁⟩ := State.classEntry (e := e) X.warmed hcl
  generalize T.vm.noted g.method.cls index (.cls cA) = vm₁ at hg₁ hwarm₁ hready₁
  have hal : s.vm.Alike vm₁ := hwarm₁.alike
  obtain ⟨kA₁, hkA₁, heA⟩ := hal.2.2 _ _ hkA
  obtain ⟨kC₁, hkC₁, heC⟩ := hal.2.2 _ _ hkC
  have hkindA₁ : kA₁.kind = .array comp' (.array .int) := by rw [heA]; exact hkindA
  have hkindC₁ : kC₁.kind = .array cc .int := by rw [heC]; exact hkindC
  have X₁ := X.noted hwarm₁
  obtain ⟨hr1, hr2⟩ := X.roomAbove hcells hslots
  refine ⟨vm₁, cA, comp', hwarm₁, hnameA, hcomp, mo_stand X₁ cA comp' _ _, fun target hrest => ?_⟩
  have hl1 : ¬ n.toNatClampNeg > e.platform.arrayLengthLimit := by rw [Launch.admits_arrayLengthLimit X.admits]; omega
  have hh1 : ¬ n.toNatClampNeg * componentBytes (.array .int) > e.platform.maxHeapBytes := by
    rw [Launch.admits_maxHeapBytes X.admits]; show ¬ n.toNatClampNeg * 4 > 536870912; omega
  jvm_step X.here [hexec, hdg]
  simp only [multianewarray.sem, wp_bind', W.resolveClassAt_links (State.method?_setTop g X.here.top) hg₁]
  rw [W.popN, if_neg (by decide)]
  refine ⟨g, State.topJava?_setTop' (s := T.setVm vm₁) g X.here.top, [.int n, .int 0], rest, rfl, hstack, ?_⟩
  simp only [List.mapM_cons, List.mapM_nil, wp_bind', wp_pure']
  refine mo_make (k := kA₁) (kB := kC₁) (cB := comp') (ci := cc) hkA₁ hkindA₁ hkC₁ hkindC₁ hn hl1 hh1 (by show T.heap.size + 1 + _ ≤ _; omega) (by show T.slotsUsed + _ ≤ _; omega) (fun d' acts' => ?_)
  have XF := mo_stand X₁ cA comp' n.toNatClampNeg n.toNatClampNeg
  have eS : ((T.setTop g).setVm vm₁).setTop { g with stack := rest } = (T.setVm vm₁).setTop { g with stack := rest } := by
    show ((T.setVm vm₁).setTop g).setTop _ = _
    rw [State.setTop_setTop]
  rw [eS, mo_fill_setTop]
  simp only [wp_bind', W.mark, W.pushRef, State.topJava?_setTop' _ XF.here.top, Option.some.injEq, exists_eq_left', State.setTop_setTop, State.heap_setTop]
  intro acts
  simp [jvm, XF.here.top]
  exact hrest
variable {cc : ByteArray} {pc : Nat} {ls : Array Slot} {rest : List Value} {D : va_G} {A : Nat → Prop} {X : va_W} {H0 : Heap} {L : List Nat} {f : Nat → va_E}
theorem pl_mna {cI cZ cJ cK : ClassId} (hexec : p.tables.exec = Jvm.exec) (hb : c.code = cc) {own : String} {index : Nat} (hown : s.vm.findClass own = some m.cls) (hclink : (Cond.classLink own index "[[I").before args s = true) (hover : (Cond.arrayOver (.array .int)).before args s = true) (harr : (Cond.arrayClass .int).before args s = true)
    (hK : va_K D vwCl (KT cI cZ cJ cK) s) (hP : va_P D vwCl (X ++ va_pl L f) H) (hD : va_D A (X ++ va_pl L f)) (hS : va_S A H0 H locs) (hA : ∀ q, H0.size ≤ q → A q) (hcells : cells + 12 ≤ R.cells) (hslots : slots + 11 ≤ R.slots) {n k : Int32} (hn : n = iI 11) (hk : k = iI 0) (hdg : decode cc pc = .ok (.multianewarray index 2, 4))
    (kk : ∀ (q : Nat) (r : Nat → Nat) (L' : List Nat) (f' : Nat → va_E) (g : Nat → Option Nat) (H1 : Heap), pExt L f L' f' → q ∈ L' → q ∉ L → f' q = .inl (cJ, 11, .inr (.inr (.inr (.inr g)))) → (∀ i, i < 11 → g i = some (r i) ∧ r i ∈ L' ∧ r i ∉ L ∧ r i ≠ q ∧ ∃ g0 : Nat → Int32, f' (r i) = .inl (cI, 0, .inl g0)) → va_P D vwCl (X ++ va_pl L' f') H1 → va_D A (X ++ va_pl L' f') → va_S A H0 H1 locs → W p l e R s m args below meth c H1 locs (cells + 12) (slots + 11) Q (F0 m (pc + 4) ls (.ref q :: rest))) : W p l e R s m args below meth c H locs cells slots Q (F0 m pc ls (.int k :: .int n :: rest)) := by
  subst hn
  have hk0 : k = 0 := hk
  subst hk0
  clear hk
  intro T hT Xs
  have hc11 : (iI 11).toNatClampNeg = 11 := by decide
  obtain ⟨vm₁, cA, cB, hW, fA, fB, X', step⟩ := mo_mna Xs hexec hown hclink hover harr (g := F0 m pc ls (.int 0 :: .int (iI 11) :: rest)) rfl (by rw [hb]; exact hdg) rfl (by decide) (by rw [hc11]; omega) (by rw [hc11]; exact hcells) (by rw [hc11]; exact hslots)
  rw [hc11] at X' step
  have eA : cA = cJ := Option.some.inj (fA.symm.trans (hK.2 2 _ rfl).2)
  have eB : cB = cI := Option.some.inj (fB.symm.trans (hK.2 0 _ rfl).2)
  subst eA
  subst eB
  have X'' := X'.dropFresh (fun x hx => by
    obtain ⟨j, -, rfl⟩ := List.mem_map.mp hx
    exact Xs.heapGrown)
  have hTh : (T.setVm vm₁).heap = H := hT
  obtain ⟨f1, f2, -, -⟩ := mo_fill_facts (T.setVm vm₁) cA cB 11 11
  rw [hTh] at f1 f2
  have hold : ∀ x : Nat, x < H.size → (mo_fill (T.setVm vm₁) cA cB 11 11).heap[x]? = H[x]? := fun x hx => by
    have := mo_fill_old (T.setVm vm₁) cA cB 11 (a := x) (by rw [hTh]; exact hx) 11
    rw [hTh] at this
    exact this
  have hrow : ∀ j : Nat, j < 11 → (mo_fill (T.setVm vm₁) cA cB 11 11).heap[H.size + 1 + j]? = some (mo_in cB) := fun j hj => by
    have := mo_fill_in (T.setVm vm₁) cA cB 11 11 j hj
    rw [hTh] at this
    exact this
  generalize hF : mo_fill (T.setVm vm₁) cA cB 11 11 = F at X'' step f1 f2 hold hrow
  have hlt : ∀ a, a ∈ L → a < H.size := fun a ha => va_pl_lt hP ha
  let eo : va_E := .inl (cA, 11, .inr (.inr (.inr (.inr (fun j => if j < 11 then some (H.size + 1 + j) else none)))))
  let ei : va_E := .inl (cB, 0, .inl (fun _ => 0))
  let f' : Nat → va_E := fun a => if a < H.size then f a else if a = H.size then eo else ei
  have g0 : ∀ a, a < H.size → f' a = f a := fun a h => if_pos h
  have g1 : f' H.size = eo := by
    show (if H.size < H.size then f H.size else if H.size = H.size then eo else ei) = eo
    rw [if_neg (Nat.lt_irrefl _), if_pos rfl]
  have g2 : ∀ i, f' (H.size + 1 + i) = ei := fun i => by
    show (if H.size + 1 + i < H.size then _ else if H.size + 1 + i = H.size then eo else ei) = ei
    rw [if_neg (by omega), if_neg (by omega)]
  let N : List Nat := (List.range 12).map (fun i => H.size + i)
  have hN : ∀ x, x ∈ N ↔ H.size ≤ x ∧ x < H.size + 12 := fun x => by
    show x ∈ (List.range 12).map (fun i => H.size + i) ↔ _
    rw [List.mem_map]
    constructor
    · rintro ⟨i, hi, rfl⟩
      have := List.mem_range.mp hi
      omega
    · rintro ⟨h1, h2⟩
      exact ⟨x - H.size, List.mem_range.mpr (by omega), by omega⟩
  have hP1 : va_P D vwCl (X ++ va_pl (L ++ N) f') F.heap := by
    intro k9 x hx
    rcases List.mem_append.mp (List.mem_of_getElem? hx) with h | h
    · obtain ⟨i, hi⟩ := List.getElem?_of_mem h
      have h2 := (ap_P hP).1 i x hi
      exact h2.kept (hold x.1 h2.lt)
    · obtain ⟨a, ha, rfl⟩ := List.mem_map.mp h
      rcases List.mem_append.mp ha with ha | ha
      · have h2 := (ap_P hP).2
        obtain ⟨i, hi⟩ := List.getElem?_of_mem (show (a, f a) ∈ va_pl L f from List.mem_map.mpr ⟨a, ha, rfl⟩)
        have h3 := h2 i _ hi
        rw [g0 a (hlt a ha)]
        exact h3.kept (hold a (hlt a ha))
      · obtain ⟨h1, h2⟩ := (hN a).mp ha
        rcases Nat.lt_or_ge H.size a with c9 | c9
        · obtain ⟨i, rfl⟩ : ∃ i, a = H.size + 1 + i := ⟨a - H.size - 1, by omega⟩
          rw [g2 i]
          exact hrow i (by omega)
        · have : a = H.size := by omega
          subst this
          rw [g1]
          exact f2
  have hD1 : va_D A (X ++ va_pl (L ++ N) f') := by
    rw [va_D_nd] at hD ⊢
    have em : ∀ (M : List Nat) (f9 : Nat → va_E), (va_pl M f9).map (fun q => q.1) = M := fun M f9 => by
      unfold va_pl
      rw [List.map_map]
      exact List.map_id M
    rw [List.map_append, em] at hD ⊢
    refine ⟨?_, fun q hq => ?_⟩
    · rw [← List.append_assoc]
      refine List.nodup_append.mpr ⟨hD.1, ?_, fun x hx y hy exy => ?_⟩
      · show ((List.range 12).map (fun i => H.size + i)).Nodup
        refine List.Pairwise.map _ (fun a b h e => ?_) List.nodup_range
        exact h (by omega)
      · subst exy
        have h1 := ((hN x).mp hy).1
        have h2 : x < H.size := by
          rcases List.mem_append.mp hx with h | h
          · obtain ⟨q, hq, rfl⟩ := List.mem_map.mp h
            obtain ⟨i, hi⟩ := List.getElem?_of_mem hq
            exact ((ap_P hP).1 i q hi).lt
          · exact hlt x h
        omega
    · rcases List.mem_append.mp hq with h | h
      · exact hD.2 q (List.mem_append_left _ h)
      · obtain ⟨a, ha, rfl⟩ := List.mem_map.mp h
        rcases List.mem_append.mp ha with ha | ha
        · exact hD.2 (a, f a) (List.mem_append_right _ (List.mem_map.mpr ⟨a, ha, rfl⟩))
        · exact hA a (Nat.le_trans hS.1 ((hN a).mp ha).1)
  have hS1 : va_S A H0 F.heap locs := ⟨Nat.le_trans hS.1 (by omega), fun x h1 h2 => (hold x (Nat.lt_of_lt_of_le h1 hS.1)).trans (hS.2.1 x h1 h2), hS.2.2⟩
  obtain ⟨t, a1, b1⟩ := kk H.size (fun i => H.size + 1 + i) (L ++ N) f' (fun j => if j < 11 then some (H.size + 1 + j) else none) F.heap (fun a ha => ⟨List.mem_append_left _ ha, g0 a (hlt a ha)⟩) (List.mem_append_right _ ((hN _).mpr ⟨Nat.le_refl _, by omega⟩)) (fun h => by have := hlt _ h; omega) g1
    (fun i hi => ⟨if_pos hi, List.mem_append_right _ ((hN _).mpr ⟨by omega, by omega⟩), fun h => by have := hlt _ h; omega, by omega, _, g2 i⟩) hP1 hD1 hS1 F rfl (by simpa [Nat.add_assoc] using X'')
  refine ⟨t, step t ?_, b1⟩
  have e9 : T.heap.size = H.size := by rw [hT]
  rw [e9]
  exact a1
end MOW
