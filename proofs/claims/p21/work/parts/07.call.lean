/-! what every method stands on: the tables' words, the statics that a throw reads; the calls -/
abbrev KT (cI cZ cJ cK : ClassId) : List (ClassId × FieldType) := [(cI, .int), (cZ, .boolean), (cJ, .array .int), (cK, .array (.array .int))]
def lw_isN : Cond → Bool
  | .declares _ => true
  | .castable _ _ => true
  | .fieldLinkNest _ _ _ _ _ _ => true
  | .methodLinkNest _ _ _ _ => true
  | _ => false
def lw_N : List Cond := lw_tbl.filter lw_isN
def lw_St : List (Nat × String) := [(176, "count tells 0 to 4"), (212, "there is no such hearth"), (154, "about tells 0 to 5"), (219, "there is no such ember"), (171, "told tells 0 to 4"), (41, "the heat is not the low of the hearth to 1023"), (52, "40 embers were lit"), (214, "the ember has gone out"), (73, "the heat is not the low of the hearth to 1 less than it was"), (96, "the hearth has no embers"), (104, "the low can not become this"), (109, "an ember is less hot than the low of the other hearth"), (221, "there is no such bucket"), (136, "the bucket has no such place"), (178, "the hearth has not so many embers"), (187, "the hearth can not be raked so often")]
def AOW (U : State) : Prop := (Cond.arrayOver (.array .int)).before #[] U = true ∧ (Cond.arrayOver (.array (.array .int))).before #[] U = true
theorem ao_moved {t : FieldType} {u U : State} (hvm : u.vm.Alike U.vm) (h : (Cond.arrayOver (.array t)).before #[] u = true) : (Cond.arrayOver (.array t)).before #[] U = true := by
  obtain ⟨comp, c, k, h1, h2, h3, h4, h5⟩ := arrayOverA_spec h
  obtain ⟨k', hk', he⟩ := hvm.2.2 _ _ h3
  have hi := (hvm.findIdx?_eq (fun (x : Class) => match x.kind with | .array component _ => component == comp | _ => false) (fun _ => rfl)).trans h2
  have hkind : k'.kind = .array comp (.array t) := by rw [he]; exact h4
  have f1 : U.vm.findClass (FieldType.array t).toString = some comp := by rw [hvm.findClass]; exact h1
  have f2 : U.vm.findClass ("[" ++ (FieldType.array t).toString) = some c := by rw [hvm.findClass]; exact h5
  unfold Cond.before Cond.holds
  simp only [Cond.value]
  rw [f1, Option.bind_some]
  refine (congrArg (fun o : Option Nat => (o.bind (fun c => (U.vm.classes[c]?).map fun (k : Class) => match k.kind with | .array _ ty => decide (ty = FieldType.array t) && decide (U.vm.findClass ("[" ++ (FieldType.array t).toString) = some c) | _ => false) == some true)) hi).trans ?_
  simp [hk', hkind, f2]
def TW (U : State) : Prop := (∀ w ∈ lw_N, va_Nw w U) ∧ (∀ q ∈ lw_St, ∃ b : Nat, vk_R RX3 q.1 q.2 b U) ∧ AOW U
theorem TW.warm {s U : State} (hW : s.WarmedH U.vm) (h : TW s) : TW U := by
  refine ⟨fun w hw => ?_, fun q hq => ?_, ao_moved hW.alike h.2.2.1, ao_moved hW.alike h.2.2.2⟩
  · have h1 := h.1 w hw
    have h2 := (List.mem_filter.mp hw).2
    cases w <;> first | (cases h2; done) | exact va_Nw.warmD hW h1 | exact va_Nw.warmC hW h1 | exact va_Nw.warmF hW h1 | exact va_Nw.warmM hW h1
  · obtain ⟨b, hb⟩ := h.2.1 q hq
    exact ⟨b, vk_R.warm hW hb⟩
theorem TW.same {s U : State} (hv : U.vm = s.vm) (h : TW s) : TW U := by
  refine ⟨fun w hw => ?_, fun q hq => ?_, ao_moved (by rw [hv]; exact Vm.Alike.refl _) h.2.2.1, ao_moved (by rw [hv]; exact Vm.Alike.refl _) h.2.2.2⟩
  · have h1 := h.1 w hw
    have h2 := (List.mem_filter.mp hw).2
    cases w <;> first | (cases h2; done) | exact va_Nw.same rfl hv.symm h1
  · obtain ⟨b, hb⟩ := h.2.1 q hq
    exact ⟨b, vk_R.same hv hb⟩
def ZW (A : Nat → Prop) (U : State) (H : Heap) : Prop := vx_Zq Bundle.tN "UNASSIGNED_STACK" Bundle.steD A U H ∧ vx_Zq Bundle.tN "SUPPRESSED_SENTINEL" Bundle.listD A U H
theorem ZW.moved {A : Nat → Prop} {u U : State} {H : Heap} (hvm : u.vm.Alike U.vm) (h : ZW A u H) : ZW A U H := ⟨h.1.moved hvm, h.2.moved hvm⟩
theorem ZW.kept {A : Nat → Prop} {U : State} {H H1 : Heap} (h : ZW A U H) (hq : ∀ a : Nat, a < H.size → ¬ A a → H1[a]? = H[a]?) : ZW A U H1 := ⟨h.1.kept hq, h.2.kept hq⟩
theorem ZW.narrow {A B : Nat → Prop} {U : State} {H : Heap} (h : ZW A U H) (hAB : ∀ q, B q → A q) : ZW B U H := ⟨h.1.narrow hAB, h.2.narrow hAB⟩
/-- a cell of a world is no class's statics -/
theorem va_at_ns {D : va_G} {cl : List vw_C} {q : Nat × va_E} {H : Heap} (h : va_at D cl q H) : ∃ cell : Cell, H[q.1]? = some cell ∧ cell.vm.isStatics = false := by
  obtain ⟨b, e⟩ := q
  cases e with
  | inl x => exact ⟨_, h, by obtain ⟨cA, n, f | f | f | f | f⟩ := x <;> rfl⟩
  | inr o =>
    obtain ⟨r, -, cell, h2, -, h3, -⟩ := h
    exact ⟨cell, h2, by rw [h3]; rfl⟩
theorem va_A_ns {D : va_G} {cl : List vw_C} {ws : va_W} {H : Heap} {b : Nat} {cell : Cell} (hP : va_P D cl ws H) (h1 : H[b]? = some cell) (h2 : cell.vm.isStatics = true) : ¬ va_A ws H.size b := by
  rintro (⟨k, e, hk⟩ | h)
  · obtain ⟨c2, h3, h4⟩ := va_at_ns (hP k _ hk)
    cases h3.symm.trans h1
    rw [h4] at h2
    cases h2
  · have := (Array.getElem?_eq_some_iff.mp h1).1
    omega
theorem zq_own {C n d : String} {D : va_G} {cl : List vw_C} {ws : va_W} {U : State} {H : Heap} (h : vx_Zq C n d (fun _ => False) U H) (hP : va_P D cl ws H) : vx_Zq C n d (va_A ws H.size) U H := by
  obtain ⟨h1, h2⟩ := h
  refine ⟨?_, ?_⟩
  · rcases h1 with ⟨cf, kf, fi, f, b, cell, g1, g2, g3, g4, g5, g6, g7, -⟩ | ⟨t, cf, kf, fi, f, b, cell, g1, g2, g3, g4, g5, g6, g7, -⟩
    · exact Or.inl ⟨cf, kf, fi, f, b, cell, g1, g2, g3, g4, g5, g6, g7, va_A_ns hP g5 g6⟩
    · exact Or.inr ⟨t, cf, kf, fi, f, b, cell, g1, g2, g3, g4, g5, g6, g7, va_A_ns hP g5 g6⟩
  · obtain ⟨cf, k, i, f, b, cell, g1, g2, g3, g4, g5, g6, g7, g8, g9, -⟩ := h2
    exact ⟨cf, k, i, f, b, cell, g1, g2, g3, g4, g5, g6, g7, g8, g9, va_A_ns hP g5 g6⟩
theorem ZW.own {D : va_G} {cl : List vw_C} {ws : va_W} {U : State} {H : Heap} (h : ZW (fun _ => False) U H) (hP : va_P D cl ws H) : ZW (va_A ws H.size) U H := ⟨zq_own h.1 hP, zq_own h.2 hP⟩
/-- a method's start: its world, apart; the tables; the statics -/
def EW (D : va_G) (cI cZ cJ cK : ClassId) (U : State) : Prop := va_K D vwCl (KT cI cZ cJ cK) U ∧ TW U ∧ ZW (fun _ => False) U U.heap
def wPre (D : va_G) (cI cZ cJ cK : ClassId) (sz : Nat) (ws : va_W) : State → Prop := fun U => U.heap.size = sz ∧ va_P D vwCl ws U.heap ∧ va_D (fun _ => True) ws ∧ EW D cI cZ cJ cK U
def wPost (D : va_G) (A : Nat → Prop) (ws : va_W) (t : State) : Prop := va_P D vwCl ws t.heap ∧ va_D A ws
theorem va_P_subm {D : va_G} {cl : List vw_C} {ws ws' : va_W} {H : Heap} (h : va_P D cl ws H) (is : List Nat) (hs : is.map (fun i => ws[i]?) = ws'.map some) : va_P D cl ws' H := by
  intro k q hk
  have h1 : (is.map (fun i => ws[i]?))[k]? = some (some q) := by rw [hs, List.getElem?_map, hk]; rfl
  rw [List.getElem?_map] at h1
  cases hi : is[k]? with
  | none => rw [hi] at h1; cases h1
  | some i => rw [hi] at h1; exact h i q (Option.some.inj h1)
theorem wPre_blind {D : va_G} {cI cZ cJ cK : ClassId} {sz : Nat} {ws : va_W} {av : List Value} : FrameBlind (va_Pc av (wPre D cI cZ cJ cK sz ws)) := by
  intro b U g mk q
  obtain ⟨q0, q1, q2, q3, q4, q5, q6⟩ := q
  exact ⟨q0, q1, q2, q3, va_K.moved (u := U) (U := U.calling g mk b) (Vm.Alike.refl U.vm) q4, TW.same (s := U) (U := U.calling g mk b) rfl q5, ZW.moved (u := U) (U := U.calling g mk b) (Vm.Alike.refl U.vm) q6⟩
theorem wPre_now {D : va_G} {cI cZ cJ cK : ClassId} {wc : va_W} {s : State} {A0 B : Nat → Prop} {H : Heap} {locs : List Loc} (hP : va_P D vwCl wc H) (hD : va_D B wc) (hK : va_K D vwCl (KT cI cZ cJ cK) s) (hT : TW s) (hZ : ZW A0 s s.heap) (hS : va_S A0 s.heap H locs) (U : State) (hU : U.heap = H) (hW : s.WarmedH U.vm) : wPre D cI cZ cJ cK H.size wc U :=
  ⟨by rw [hU], by rw [hU]; exact hP, hD.weaken (fun _ _ _ _ => trivial), va_K.moved hW.alike hK, hT.warm hW, by rw [hU]; exact ((hZ.kept hS.2.1).narrow (fun _ h => h.elim)).moved hW.alike⟩
theorem pv {D : va_G} {cI cZ cJ cK : ClassId} {ws wc : va_W} {s : State} {A0 B : Nat → Prop} {H : Heap} {locs : List Loc} {ci q0 b : Nat} {r : vw_C} {fs : List Value} {As : List Value} (hP : va_P D vwCl ws H) (hD : va_D B ws) (hK : va_K D vwCl (KT cI cZ cJ cK) s) (hT : TW s) (hZ : ZW A0 s s.heap) (hS : va_S A0 s.heap H locs) (is : List Nat) (hi : is.map (fun i => ws[i]?) = wc.map some) (hn : va_nd is = true) (hc : vwCl[ci]? = some r) (he : ws[q0]? = some (b, .inr (ci, fs))) :
    PreV s H r.1 b (va_Pc (.ref b :: As) (wPre D cI cZ cJ cK H.size wc)) As :=
  ⟨wPre_blind, va_recv hK hP hc he, fun U hU hW => ⟨rfl, wPre_now (va_P_subm hP is hi) (hD.sub is hn hi) hK hT hZ hS U hU hW⟩⟩
theorem ps {D : va_G} {cI cZ cJ cK : ClassId} {ws wc : va_W} {s : State} {A0 B : Nat → Prop} {H : Heap} {locs : List Loc} {As : List Value} (hP : va_P D vwCl ws H) (hD : va_D B ws) (hK : va_K D vwCl (KT cI cZ cJ cK) s) (hT : TW s) (hZ : ZW A0 s s.heap) (hS : va_S A0 s.heap H locs) (is : List Nat) (hi : is.map (fun i => ws[i]?) = wc.map some) (hn : va_nd is = true) :
    PreS s H (va_Pc As (wPre D cI cZ cJ cK H.size wc)) As :=
  ⟨wPre_blind, fun U hU hW => ⟨rfl, wPre_now (va_P_subm hP is hi) (hD.sub is hn hi) hK hT hZ hS U hU hW⟩⟩
abbrev ws_ (y : MethodName) (c : ByteArray) (n : Nat) (r : Option FieldType) : List Cond := .code y c n r :: lw_G
theorem gIn {w : Cond} (h : w ∈ lw_G) : w ∈ lw_G ∧ ((w.onTables && w.keeps) = true ∨ ∃ ty, w = .arrayClass ty) := ⟨h, good_of_word (List.mem_filter.mp h).2⟩
theorem gC {y : MethodName} {c : ByteArray} {n : Nat} {r : Option FieldType} (h : Cond.code y c n r ∈ lw_G) : GoodIn lw_G (ws_ y c n r) := fun w hw => (List.mem_cons.mp hw).elim (fun e => by rw [e]; exact gIn h) gIn
theorem gV {own C : String} {i : Nat} {y : MethodName} {c : ByteArray} {n : Nat} {r : Option FieldType} (h1 : Cond.methodLink own i y ∈ lw_G) (h2 : Cond.instanceMethod y ∈ lw_G) (h3 : Cond.selects C y y ∈ lw_G) (h4 : Cond.initialized C ∈ lw_G) (h5 : Cond.code y c n r ∈ lw_G) : GoodIn lw_G (wsV own i C y (ws_ y c n r)) := by
  intro w hw
  simp only [wsV, List.mem_append, List.mem_cons, List.not_mem_nil, or_false] at hw
  rcases hw with (e | e | e | e) | (e | e)
  · rw [e]; exact gIn h1
  · rw [e]; exact gIn h2
  · rw [e]; exact gIn h3
  · rw [e]; exact gIn h4
  · rw [e]; exact gIn h5
  · exact gIn e
theorem gS {own : String} {i : Nat} {y : MethodName} {c : ByteArray} {n : Nat} {r : Option FieldType} (h1 : Cond.methodLink own i y ∈ lw_G) (h2 : Cond.static y ∈ lw_G) (h4 : Cond.initialized y.cls ∈ lw_G) (h5 : Cond.code y c n r ∈ lw_G) : GoodIn lw_G (va_wsS own i y (ws_ y c n r)) := by
  intro w hw
  simp only [va_wsS, List.mem_append, List.mem_cons, List.not_mem_nil, or_false] at hw
  rcases hw with (e | e | e) | (e | e)
  · rw [e]; exact gIn h1
  · rw [e]; exact gIn h2
  · rw [e]; exact gIn h4
  · rw [e]; exact gIn h5
  · exact gIn e
section CR
variable {p : Program} {l : Launch} {e : Env} {R : Room} {s : State} {m : MethodId} {args : Array Value} {below : List Frame} {meth : Method} {c : Code} {H : Heap} {locs : List Loc} {cells slots : Nat} {Q : State → Prop}
variable {cc : ByteArray} {pc : Nat} {ls : Array Slot} {rest st0 : List Value} {D : va_G} {A0 : Nat → Prop} {a : Array Value} {ws wc wr : va_W} {H0 : Heap} {mc ms : Nat}

theorem vx_callr {A1 : Nat → Prop} {free : Addr → Prop} {S SX : Type} {post : S → Prop} {px : SX → Prop} {B : S → Nat → State → Prop} {BX : String → SX → State → Prop} {AX : Nat → Prop} (hr : vx_Run p l e R s m args below meth c H locs cells slots mc ms (F0 m pc ls st0) rest (va_Qr post B A1 a) (vx_X px BX AX) free) (hS : va_S A0 H0 H locs) (hA : ∀ q, q < H.size → A1 q → A0 q) (hf : ∀ q, free q → A0 q) (hAX : ∀ q, q < H.size → AX q → A0 q)
    (kx : ∀ (E : String) (ce : Cell) (q9 : Addr) (u : SX) (t : State) (H1 : Heap) (locs1 : List Loc), t.heap = H1 → s.vm.Alike t.vm → px u → BX E u t → H.size ≤ H1.size → (∀ q : Nat, q < H.size → ¬ AX q → H1[q]? = H[q]?) → va_S A0 H0 H1 locs1 → H1[q9]? = some ce → ce.vm = .none → s.vm.findClass E = some ce.cls → vx_W p l e R s m args below meth c H1 locs1 (cells + mc) (slots + ms) Q (F0 m pc ls rest) q9)
    (kk : ∀ (u : S) (ra : Nat) (t : State) (H1 : Heap) (locs1 : List Loc), t.heap = H1 → s.vm.Alike t.vm → post u → B u ra t → H.size ≤ H1.size → (∀ q : Nat, q < H.size → ¬ A1 q → H1[q]? = H[q]?) → va_S A0 H0 H1 locs1 → W p l e R s m args below meth c H1 locs1 (cells + mc) (slots + ms) Q (F0 m (pc + 3) ls (.ref ra :: rest))) : W p l e R s m args below meth c H locs cells slots Q (F0 m pc ls st0) := by
  intro T hT X
  rcases hr T hT X with ⟨v, st₀, t, T', L, h0, X', hL, e1, e2, ⟨⟨u, ra, hv, hp, hb⟩, hF⟩, st⟩ | ⟨q, st₀, t, T', L, E, ce, h0, X', hL, e1, e2, ⟨u, hp, hb, hF⟩, hce, hcv, hcl, st⟩
  · cases hv
    obtain ⟨k1, k2, k3⟩ := vx_keep h0 e1 hS hA hf hL hF
    obtain ⟨t2, a1, b1⟩ := kk u ra t T'.heap (locs ++ L) e1.symm (by rw [← e2]; exact X'.warmed.alike) hp hb k1 k2 k3 T' rfl X'
    exact ⟨t2, st t2 a1, b1⟩
  · obtain ⟨k1, k2, k3⟩ := vx_keep h0 e1 hS hAX hf hL hF
    obtain ⟨t2, a1, b1⟩ := kx E ce q u t T'.heap (locs ++ L) e1.symm (by rw [← e2]; exact X'.warmed.alike) hp hb k1 k2 k3 (by rw [e1]; exact hce) hcv hcl T' rfl X'
    exact ⟨t2, st.trans a1, b1⟩
theorem cr_i {post : Int32 → Unit → Prop} (hr : va_Run p l e R s m args below meth c H locs cells slots mc ms (F0 m pc ls st0) rest (va_Qi post (fun (_ : Unit) _ => True) (fun _ => False) a) (fun _ => False)) (hS : va_S A0 H0 H locs) (hP : va_P D vwCl ws H)
    (kk : ∀ (r : Int32) (H1 : Heap) (locs1 : List Loc), post r () → va_P D vwCl ws H1 → va_S A0 H0 H1 locs1 → W p l e R s m args below meth c H1 locs1 (cells + mc) (slots + ms) Q (F0 m (pc + 3) ls (.int r :: rest))) : W p l e R s m args below meth c H locs cells slots Q (F0 m pc ls st0) :=
  va_calli hr hS (fun _ _ h => h.elim) (fun _ h => h.elim) (fun r u t H1 locs1 _ _ hp _ _ hk h3 => kk r H1 locs1 hp (hP.kept fun k q hq => hk q.1 (hP k q hq).lt (fun z => z)) h3)
theorem cx_i {post : Int32 → Unit → Prop} {pX : String → Prop} (hr : vx_Run p l e R s m args below meth c H locs cells slots mc ms (F0 m pc ls st0) rest (va_Qi post (fun (_ : Unit) _ => True) (fun _ => False) a) (vx_X (fun (_ : Unit) => True) (fun E _ _ => pX E) (fun _ => False)) (fun _ => False)) (hS : va_S A0 H0 H locs) (hP : va_P D vwCl ws H)
    (kx : ∀ (E : String) (ce : Cell) (q9 : Addr) (H1 : Heap) (locs1 : List Loc), pX E → va_P D vwCl ws H1 → va_S A0 H0 H1 locs1 → H1[q9]? = some ce → ce.vm = .none → s.vm.findClass E = some ce.cls → vx_W p l e R s m args below meth c H1 locs1 (cells + mc) (slots + ms) Q (F0 m pc ls rest) q9)
    (kk : ∀ (r : Int32) (H1 : Heap) (locs1 : List Loc), post r () → va_P D vwCl ws H1 → va_S A0 H0 H1 locs1 → W p l e R s m args below meth c H1 locs1 (cells + mc) (slots + ms) Q (F0 m (pc + 3) ls (.int r :: rest))) : W p l e R s m args below meth c H locs cells slots Q (F0 m pc ls st0) :=
  vx_calli hr hS (fun _ _ h => h.elim) (fun _ h => h.elim) (fun _ _ h => h.elim) (fun E ce q9 u t H1 locs1 _ _ _ hp _ hk h3 g1 g2 g3 => kx E ce q9 H1 locs1 hp (hP.kept fun k q hq => hk q.1 (hP k q hq).lt (fun z => z)) h3 g1 g2 g3) (fun r u t H1 locs1 _ _ hp _ _ hk h3 => kk r H1 locs1 hp (hP.kept fun k q hq => hk q.1 (hP k q hq).lt (fun z => z)) h3)
theorem cm_i {S : Type} {w1 : S → va_W} {post : Int32 → S → Prop} (hr : va_Run p l e R s m args below meth c H locs cells slots mc ms (F0 m pc ls st0) rest (va_Qi post (fun (u : S) t => wPost D (va_A wc H.size) (w1 u) t) (va_A wc H.size) a) (va_A wc H.size)) (hS : va_S A0 H0 H locs) (hP : va_P D vwCl ws H) (hD : va_D A0 ws) (hA : ∀ q, H0.size ≤ q → A0 q) (isC isR : List Nat) (hC : isC.map (fun i => ws[i]?) = wc.map some) (hR : isR.map (fun i => ws[i]?) = wr.map some) (hn : va_nd isR = true) (hdis : ∀ i ∈ isR, i ∉ isC)
    (kk : ∀ (r : Int32) (u : S) (H1 : Heap) (locs1 : List Loc), post r u → va_P D vwCl (wr ++ w1 u) H1 → va_D A0 (wr ++ w1 u) → va_S A0 H0 H1 locs1 → W p l e R s m args below meth c H1 locs1 (cells + mc) (slots + ms) Q (F0 m (pc + 3) ls (.int r :: rest))) : W p l e R s m args below meth c H locs cells slots Q (F0 m pc ls st0) := by
  have hF := va_free hD hS hA isC hC
  refine va_calli hr hS (fun q _ h => hF q h) hF (fun r u t H1 locs1 ht _ hp hB _ hk h3 => by
    obtain ⟨hP1, hD1⟩ := hB
    rw [ht] at hP1
    obtain ⟨k1, k2⟩ := va_join hP hD isC isR hC hR hn hdis hk hF hP1 hD1
    exact kk r u H1 locs1 hp k1 k2 h3)
theorem cy_i {S : Type} {w1 : S → va_W} {post : Int32 → S → Prop} {pX : String → Prop} (hr : vx_Run p l e R s m args below meth c H locs cells slots mc ms (F0 m pc ls st0) rest (va_Qi post (fun (u : S) t => wPost D (va_A wc H.size) (w1 u) t) (va_A wc H.size) a) (vx_X (fun (_ : Unit) => True) (fun E _ _ => pX E) (fun _ => False)) (va_A wc H.size)) (hS : va_S A0 H0 H locs) (hP : va_P D vwCl ws H) (hD : va_D A0 ws) (hA : ∀ q, H0.size ≤ q → A0 q) (isC isR : List Nat) (hC : isC.map (fun i => ws[i]?) = wc.map some) (hR : isR.map (fun i => ws[i]?) = wr.map some) (hn : va_nd isR = true) (hdis : ∀ i ∈ isR, i ∉ isC)
    (kx : ∀ (E : String) (ce : Cell) (q9 : Addr) (H1 : Heap) (locs1 : List Loc), pX E → va_P D vwCl ws H1 → va_S A0 H0 H1 locs1 → H1[q9]? = some ce → ce.vm = .none → s.vm.findClass E = some ce.cls → vx_W p l e R s m args below meth c H1 locs1 (cells + mc) (slots + ms) Q (F0 m pc ls rest) q9)
    (kk : ∀ (r : Int32) (u : S) (H1 : Heap) (locs1 : List Loc), post r u → va_P D vwCl (wr ++ w1 u) H1 → va_D A0 (wr ++ w1 u) → va_S A0 H0 H1 locs1 → W p l e R s m args below meth c H1 locs1 (cells + mc) (slots + ms) Q (F0 m (pc + 3) ls (.int r :: rest))) : W p l e R s m args below meth c H locs cells slots Q (F0 m pc ls st0) := by
  have hF := va_free hD hS hA isC hC
  refine vx_calli hr hS (fun q _ h => hF q h) hF (fun _ _ h => h.elim) (fun E ce q9 u t H1 locs1 _ _ _ hp _ hk h3 g1 g2 g3 => kx E ce q9 H1 locs1 hp (hP.kept fun k q hq => hk q.1 (hP k q hq).lt (fun z => z)) h3 g1 g2 g3) (fun r u t H1 locs1 ht _ hp hB _ hk h3 => by
    obtain ⟨hP1, hD1⟩ := hB
    rw [ht] at hP1
    obtain ⟨k1, k2⟩ := va_join hP hD isC isR hC hR hn hdis hk hF hP1 hD1
    exact kk r u H1 locs1 hp k1 k2 h3)
theorem cr_l {post : Int64 → Unit → Prop} (hr : va_Run p l e R s m args below meth c H locs cells slots mc ms (F0 m pc ls st0) rest (va_Ql post (fun (_ : Unit) _ => True) (fun _ => False) a) (fun _ => False)) (hS : va_S A0 H0 H locs) (hP : va_P D vwCl ws H)
    (kk : ∀ (r : Int64) (H1 : Heap) (locs1 : List Loc), post r () → va_P D vwCl ws H1 → va_S A0 H0 H1 locs1 → W p l e R s m args below meth c H1 locs1 (cells + mc) (slots + ms) Q (F0 m (pc + 3) ls (.long r :: rest))) : W p l e R s m args below meth c H locs cells slots Q (F0 m pc ls st0) :=
  va_calll hr hS (fun _ _ h => h.elim) (fun _ h => h.elim) (fun r u t H1 locs1 _ _ hp _ _ hk h3 => kk r H1 locs1 hp (hP.kept fun k q hq => hk q.1 (hP k q hq).lt (fun z => z)) h3)
theorem cx_l {post : Int64 → Unit → Prop} {pX : String → Prop} (hr : vx_Run p l e R s m args below meth c H locs cells slots mc ms (F0 m pc ls st0) rest (va_Ql post (fun (_ : Unit) _ => True) (fun _ => False) a) (vx_X (fun (_ : Unit) => True) (fun E _ _ => pX E) (fun _ => False)) (fun _ => False)) (hS : va_S A0 H0 H locs) (hP : va_P D vwCl ws H)
    (kx : ∀ (E : String) (ce : Cell) (q9 : Addr) (H1 : Heap) (locs1 : List Loc), pX E → va_P D vwCl ws H1 → va_S A0 H0 H1 locs1 → H1[q9]? = some ce → ce.vm = .none → s.vm.findClass E = some ce.cls → vx_W p l e R s m args below meth c H1 locs1 (cells + mc) (slots + ms) Q (F0 m pc ls rest) q9)
    (kk : ∀ (r : Int64) (H1 : Heap) (locs1 : List Loc), post r () → va_P D vwCl ws H1 → va_S A0 H0 H1 locs1 → W p l e R s m args below meth c H1 locs1 (cells + mc) (slots + ms) Q (F0 m (pc + 3) ls (.long r :: rest))) : W p l e R s m args below meth c H locs cells slots Q (F0 m pc ls st0) :=
  vx_calll hr hS (fun _ _ h => h.elim) (fun _ h => h.elim) (fun _ _ h => h.elim) (fun E ce q9 u t H1 locs1 _ _ _ hp _ hk h3 g1 g2 g3 => kx E ce q9 H1 locs1 hp (hP.kept fun k q hq => hk q.1 (hP k q hq).lt (fun z => z)) h3 g1 g2 g3) (fun r u t H1 locs1 _ _ hp _ _ hk h3 => kk r H1 locs1 hp (hP.kept fun k q hq => hk q.1 (hP k q hq).lt (fun z => z)) h3)
theorem cm_l {S : Type} {w1 : S → va_W} {post : Int64 → S → Prop} (hr : va_Run p l e R s m args below meth c H locs cells slots mc ms (F0 m pc ls st0) rest (va_Ql post (fun (u : S) t => wPost D (va_A wc H.size) (w1 u) t) (va_A wc H.size) a) (va_A wc H.size)) (hS : va_S A0 H0 H locs) (hP : va_P D vwCl ws H) (hD : va_D A0 ws) (hA : ∀ q, H0.size ≤ q → A0 q) (isC isR : List Nat) (hC : isC.map (fun i => ws[i]?) = wc.map some) (hR : isR.map (fun i => ws[i]?) = wr.map some) (hn : va_nd isR = true) (hdis : ∀ i ∈ isR, i ∉ isC)
    (kk : ∀ (r : Int64) (u : S) (H1 : Heap) (locs1 : List Loc), post r u → va_P D vwCl (wr ++ w1 u) H1 → va_D A0 (wr ++ w1 u) → va_S A0 H0 H1 locs1 → W p l e R s m args below meth c H1 locs1 (cells + mc) (slots + ms) Q (F0 m (pc + 3) ls (.long r :: rest))) : W p l e R s m args below meth c H locs cells slots Q (F0 m pc ls st0) := by
  have hF := va_free hD hS hA isC hC
  refine va_calll hr hS (fun q _ h => hF q h) hF (fun r u t H1 locs1 ht _ hp hB _ hk h3 => by
    obtain ⟨hP1, hD1⟩ := hB
    rw [ht] at hP1
    obtain ⟨k1, k2⟩ := va_join hP hD isC isR hC hR hn hdis hk hF hP1 hD1
    exact kk r u H1 locs1 hp k1 k2 h3)
theorem cy_l {S : Type} {w1 : S → va_W} {post : Int64 → S → Prop} {pX : String → Prop} (hr : vx_Run p l e R s m args below meth c H locs cells slots mc ms (F0 m pc ls st0) rest (va_Ql post (fun (u : S) t => wPost D (va_A wc H.size) (w1 u) t) (va_A wc H.size) a) (vx_X (fun (_ : Unit) => True) (fun E _ _ => pX E) (fun _ => False)) (va_A wc H.size)) (hS : va_S A0 H0 H locs) (hP : va_P D vwCl ws H) (hD : va_D A0 ws) (hA : ∀ q, H0.size ≤ q → A0 q) (isC isR : List Nat) (hC : isC.map (fun i => ws[i]?) = wc.map some) (hR : isR.map (fun i => ws[i]?) = wr.map some) (hn : va_nd isR = true) (hdis : ∀ i ∈ isR, i ∉ isC)
    (kx : ∀ (E : String) (ce : Cell) (q9 : Addr) (H1 : Heap) (locs1 : List Loc), pX E → va_P D vwCl ws H1 → va_S A0 H0 H1 locs1 → H1[q9]? = some ce → ce.vm = .none → s.vm.findClass E = some ce.cls → vx_W p l e R s m args below meth c H1 locs1 (cells + mc) (slots + ms) Q (F0 m pc ls rest) q9)
    (kk : ∀ (r : Int64) (u : S) (H1 : Heap) (locs1 : List Loc), post r u → va_P D vwCl (wr ++ w1 u) H1 → va_D A0 (wr ++ w1 u) → va_S A0 H0 H1 locs1 → W p l e R s m args below meth c H1 locs1 (cells + mc) (slots + ms) Q (F0 m (pc + 3) ls (.long r :: rest))) : W p l e R s m args below meth c H locs cells slots Q (F0 m pc ls st0) := by
  have hF := va_free hD hS hA isC hC
  refine vx_calll hr hS (fun q _ h => hF q h) hF (fun _ _ h => h.elim) (fun E ce q9 u t H1 locs1 _ _ _ hp _ hk h3 g1 g2 g3 => kx E ce q9 H1 locs1 hp (hP.kept fun k q hq => hk q.1 (hP k q hq).lt (fun z => z)) h3 g1 g2 g3) (fun r u t H1 locs1 ht _ hp hB _ hk h3 => by
    obtain ⟨hP1, hD1⟩ := hB
    rw [ht] at hP1
    obtain ⟨k1, k2⟩ := va_join hP hD isC isR hC hR hn hdis hk hF hP1 hD1
    exact kk r u H1 locs1 hp k1 k2 h3)
theorem cr_r {post : Nat → Prop} (hr : va_Run p l e R s m args below meth c H locs cells slots mc ms (F0 m pc ls st0) rest (va_Qr (fun (_ : Unit) => True) (fun _ x _ => post x) (fun _ => False) a) (fun _ => False)) (hS : va_S A0 H0 H locs) (hP : va_P D vwCl ws H)
    (kk : ∀ (r : Nat) (H1 : Heap) (locs1 : List Loc), post r → va_P D vwCl ws H1 → va_S A0 H0 H1 locs1 → W p l e R s m args below meth c H1 locs1 (cells + mc) (slots + ms) Q (F0 m (pc + 3) ls (.ref r :: rest))) : W p l e R s m args below meth c H locs cells slots Q (F0 m pc ls st0) :=
  va_callr hr hS (fun _ _ h => h.elim) (fun _ h => h.elim) (fun u r t H1 locs1 _ _ _ hp _ hk h3 => kk r H1 locs1 hp (hP.kept fun k q hq => hk q.1 (hP k q hq).lt (fun z => z)) h3)
theorem cx_r {post : Nat → Prop} {pX : String → Prop} (hr : vx_Run p l e R s m args below meth c H locs cells slots mc ms (F0 m pc ls st0) rest (va_Qr (fun (_ : Unit) => True) (fun _ x _ => post x) (fun _ => False) a) (vx_X (fun (_ : Unit) => True) (fun E _ _ => pX E) (fun _ => False)) (fun _ => False)) (hS : va_S A0 H0 H locs) (hP : va_P D vwCl ws H)
    (kx : ∀ (E : String) (ce : Cell) (q9 : Addr) (H1 : Heap) (locs1 : List Loc), pX E → va_P D vwCl ws H1 → va_S A0 H0 H1 locs1 → H1[q9]? = some ce → ce.vm = .none → s.vm.findClass E = some ce.cls → vx_W p l e R s m args below meth c H1 locs1 (cells + mc) (slots + ms) Q (F0 m pc ls rest) q9)
    (kk : ∀ (r : Nat) (H1 : Heap) (locs1 : List Loc), post r → va_P D vwCl ws H1 → va_S A0 H0 H1 locs1 → W p l e R s m args below meth c H1 locs1 (cells + mc) (slots + ms) Q (F0 m (pc + 3) ls (.ref r :: rest))) : W p l e R s m args below meth c H locs cells slots Q (F0 m pc ls st0) :=
  vx_callr hr hS (fun _ _ h => h.elim) (fun _ h => h.elim) (fun _ _ h => h.elim) (fun E ce q9 u t H1 locs1 _ _ _ hp _ hk h3 g1 g2 g3 => kx E ce q9 H1 locs1 hp (hP.kept fun k q hq => hk q.1 (hP k q hq).lt (fun z => z)) h3 g1 g2 g3) (fun u r t H1 locs1 _ _ _ hp _ hk h3 => kk r H1 locs1 hp (hP.kept fun k q hq => hk q.1 (hP k q hq).lt (fun z => z)) h3)
theorem cm_r {S : Type} {w1 : S → va_W} {post : Nat → S → Prop} (hr : va_Run p l e R s m args below meth c H locs cells slots mc ms (F0 m pc ls st0) rest (va_Qr (fun (u : S) => True) (fun u x t => post x u ∧ wPost D (va_A wc H.size) (w1 u) t) (va_A wc H.size) a) (va_A wc H.size)) (hS : va_S A0 H0 H locs) (hP : va_P D vwCl ws H) (hD : va_D A0 ws) (hA : ∀ q, H0.size ≤ q → A0 q) (isC isR : List Nat) (hC : isC.map (fun i => ws[i]?) = wc.map some) (hR : isR.map (fun i => ws[i]?) = wr.map some) (hn : va_nd isR = true) (hdis : ∀ i ∈ isR, i ∉ isC)
    (kk : ∀ (r : Nat) (u : S) (H1 : Heap) (locs1 : List Loc), post r u → va_P D vwCl (wr ++ w1 u) H1 → va_D A0 (wr ++ w1 u) → va_S A0 H0 H1 locs1 → W p l e R s m args below meth c H1 locs1 (cells + mc) (slots + ms) Q (F0 m (pc + 3) ls (.ref r :: rest))) : W p l e R s m args below meth c H locs cells slots Q (F0 m pc ls st0) := by
  have hF := va_free hD hS hA isC hC
  refine va_callr hr hS (fun q _ h => hF q h) hF (fun u r t H1 locs1 ht _ _ hB _ hk h3 => by
    obtain ⟨hp, hB⟩ := hB
    obtain ⟨hP1, hD1⟩ := hB
    rw [ht] at hP1
    obtain ⟨k1, k2⟩ := va_join hP hD isC isR hC hR hn hdis hk hF hP1 hD1
    exact kk r u H1 locs1 hp k1 k2 h3)
theorem cr_v {post : Prop} (hr : va_Run p l e R s m args below meth c H locs cells slots mc ms (F0 m pc ls st0) rest (va_Qv (fun (_ : Unit) => post) (fun _ _ => True) (fun _ => False) a) (fun _ => False)) (hS : va_S A0 H0 H locs) (hP : va_P D vwCl ws H)
    (kk : ∀ (H1 : Heap) (locs1 : List Loc), post → va_P D vwCl ws H1 → va_S A0 H0 H1 locs1 → W p l e R s m args below meth c H1 locs1 (cells + mc) (slots + ms) Q (F0 m (pc + 3) ls rest)) : W p l e R s m args below meth c H locs cells slots Q (F0 m pc ls st0) :=
  va_callv hr hS (fun _ _ h => h.elim) (fun _ h => h.elim) (fun u t H1 locs1 _ _ hp _ _ hk h3 => kk H1 locs1 hp (hP.kept fun k q hq => hk q.1 (hP k q hq).lt (fun z => z)) h3)
theorem cx_v {post : Prop} {pX : String → Prop} (hr : vx_Run p l e R s m args below meth c H locs cells slots mc ms (F0 m pc ls st0) rest (va_Qv (fun (_ : Unit) => post) (fun _ _ => True) (fun _ => False) a) (vx_X (fun (_ : Unit) => True) (fun E _ _ => pX E) (fun _ => False)) (fun _ => False)) (hS : va_S A0 H0 H locs) (hP : va_P D vwCl ws H)
    (kx : ∀ (E : String) (ce : Cell) (q9 : Addr) (H1 : Heap) (locs1 : List Loc), pX E → va_P D vwCl ws H1 → va_S A0 H0 H1 locs1 → H1[q9]? = some ce → ce.vm = .none → s.vm.findClass E = some ce.cls → vx_W p l e R s m args below meth c H1 locs1 (cells + mc) (slots + ms) Q (F0 m pc ls rest) q9)
    (kk : ∀ (H1 : Heap) (locs1 : List Loc), post → va_P D vwCl ws H1 → va_S A0 H0 H1 locs1 → W p l e R s m args below meth c H1 locs1 (cells + mc) (slots + ms) Q (F0 m (pc + 3) ls rest)) : W p l e R s m args below meth c H locs cells slots Q (F0 m pc ls st0) :=
  vx_callv hr hS (fun _ _ h => h.elim) (fun _ h => h.elim) (fun _ _ h => h.elim) (fun E ce q9 u t H1 locs1 _ _ _ hp _ hk h3 g1 g2 g3 => kx E ce q9 H1 locs1 hp (hP.kept fun k q hq => hk q.1 (hP k q hq).lt (fun z => z)) h3 g1 g2 g3) (fun u t H1 locs1 _ _ hp _ _ hk h3 => kk H1 locs1 hp (hP.kept fun k q hq => hk q.1 (hP k q hq).lt (fun z => z)) h3)
theorem cm_v {S : Type} {w1 : S → va_W} {post : S → Prop} (hr : va_Run p l e R s m args below meth c H locs cells slots mc ms (F0 m pc ls st0) rest (va_Qv post (fun (u : S) t => wPost D (va_A wc H.size) (w1 u) t) (va_A wc H.size) a) (va_A wc H.size)) (hS : va_S A0 H0 H locs) (hP : va_P D vwCl ws H) (hD : va_D A0 ws) (hA : ∀ q, H0.size ≤ q → A0 q) (isC isR : List Nat) (hC : isC.map (fun i => ws[i]?) = wc.map some) (hR : isR.map (fun i => ws[i]?) = wr.map some) (hn : va_nd isR = true) (hdis : ∀ i ∈ isR, i ∉ isC)
    (kk : ∀ (u : S) (H1 : Heap) (locs1 : List Loc), post u → va_P D vwCl (wr ++ w1 u) H1 → va_D A0 (wr ++ w1 u) → va_S A0 H0 H1 locs1 → W p l e R s m args below meth c H1 locs1 (cells + mc) (slots + ms) Q (F0 m (pc + 3) ls rest)) : W p l e R s m args below meth c H locs cells slots Q (F0 m pc ls st0) := by
  have hF := va_free hD hS hA isC hC
  refine va_callv hr hS (fun q _ h => hF q h) hF (fun u t H1 locs1 ht _ hp hB _ hk h3 => by
    obtain ⟨hP1, hD1⟩ := hB
    rw [ht] at hP1
    obtain ⟨k1, k2⟩ := va_join hP hD isC isR hC hR hn hdis hk hF hP1 hD1
    exact kk u H1 locs1 hp k1 k2 h3)
theorem cy_v {S : Type} {w1 : S → va_W} {post : S → Prop} {pX : String → Prop} (hr : vx_Run p l e R s m args below meth c H locs cells slots mc ms (F0 m pc ls st0) rest (va_Qv post (fun (u : S) t => wPost D (va_A wc H.size) (w1 u) t) (va_A wc H.size) a) (vx_X (fun (_ : Unit) => True) (fun E _ _ => pX E) (fun _ => False)) (va_A wc H.size)) (hS : va_S A0 H0 H locs) (hP : va_P D vwCl ws H) (hD : va_D A0 ws) (hA : ∀ q, H0.size ≤ q → A0 q) (isC isR : List Nat) (hC : isC.map (fun i => ws[i]?) = wc.map some) (hR : isR.map (fun i => ws[i]?) = wr.map some) (hn : va_nd isR = true) (hdis : ∀ i ∈ isR, i ∉ isC)
    (kx : ∀ (E : String) (ce : Cell) (q9 : Addr) (H1 : Heap) (locs1 : List Loc), pX E → va_P D vwCl ws H1 → va_S A0 H0 H1 locs1 → H1[q9]? = some ce → ce.vm = .none → s.vm.findClass E = some ce.cls → vx_W p l e R s m args below meth c H1 locs1 (cells + mc) (slots + ms) Q (F0 m pc ls rest) q9)
    (kk : ∀ (u : S) (H1 : Heap) (locs1 : List Loc), post u → va_P D vwCl (wr ++ w1 u) H1 → va_D A0 (wr ++ w1 u) → va_S A0 H0 H1 locs1 → W p l e R s m args below meth c H1 locs1 (cells + mc) (slots + ms) Q (F0 m (pc + 3) ls rest)) : W p l e R s m args below meth c H locs cells slots Q (F0 m pc ls st0) := by
  have hF := va_free hD hS hA isC hC
  refine vx_callv hr hS (fun q _ h => hF q h) hF (fun _ _ h => h.elim) (fun E ce q9 u t H1 locs1 _ _ _ hp _ hk h3 g1 g2 g3 => kx E ce q9 H1 locs1 hp (hP.kept fun k q hq => hk q.1 (hP k q hq).lt (fun z => z)) h3 g1 g2 g3) (fun u t H1 locs1 ht _ hp hB _ hk h3 => by
    obtain ⟨hP1, hD1⟩ := hB
    rw [ht] at hP1
    obtain ⟨k1, k2⟩ := va_join hP hD isC isR hC hR hn hdis hk hF hP1 hD1
    exact kk u H1 locs1 hp k1 k2 h3)
theorem cr_d {post : UInt64 → Unit → Prop} (hr : va_Run p l e R s m args below meth c H locs cells slots mc ms (F0 m pc ls st0) rest (va_Qd post (fun (_ : Unit) _ => True) (fun _ => False) a) (fun _ => False)) (hS : va_S A0 H0 H locs) (hP : va_P D vwCl ws H)
    (kk : ∀ (r : UInt64) (H1 : Heap) (locs1 : List Loc), post r () → va_P D vwCl ws H1 → va_S A0 H0 H1 locs1 → W p l e R s m args below meth c H1 locs1 (cells + mc) (slots + ms) Q (F0 m (pc + 3) ls (.double r :: rest))) : W p l e R s m args below meth c H locs cells slots Q (F0 m pc ls st0) :=
  va_calld hr hS (fun _ _ h => h.elim) (fun _ h => h.elim) (fun r u t H1 locs1 _ _ hp _ _ hk h3 => kk r H1 locs1 hp (hP.kept fun k q hq => hk q.1 (hP k q hq).lt (fun z => z)) h3)
theorem cx_d {post : UInt64 → Unit → Prop} {pX : String → Prop} (hr : vx_Run p l e R s m args below meth c H locs cells slots mc ms (F0 m pc ls st0) rest (va_Qd post (fun (_ : Unit) _ => True) (fun _ => False) a) (vx_X (fun (_ : Unit) => True) (fun E _ _ => pX E) (fun _ => False)) (fun _ => False)) (hS : va_S A0 H0 H locs) (hP : va_P D vwCl ws H)
    (kx : ∀ (E : String) (ce : Cell) (q9 : Addr) (H1 : Heap) (locs1 : List Loc), pX E → va_P D vwCl ws H1 → va_S A0 H0 H1 locs1 → H1[q9]? = some ce → ce.vm = .none → s.vm.findClass E = some ce.cls → vx_W p l e R s m args below meth c H1 locs1 (cells + mc) (slots + ms) Q (F0 m pc ls rest) q9)
    (kk : ∀ (r : UInt64) (H1 : Heap) (locs1 : List Loc), post r () → va_P D vwCl ws H1 → va_S A0 H0 H1 locs1 → W p l e R s m args below meth c H1 locs1 (cells + mc) (slots + ms) Q (F0 m (pc + 3) ls (.double r :: rest))) : W p l e R s m args below meth c H locs cells slots Q (F0 m pc ls st0) :=
  vx_calld hr hS (fun _ _ h => h.elim) (fun _ h => h.elim) (fun _ _ h => h.elim) (fun E ce q9 u t H1 locs1 _ _ _ hp _ hk h3 g1 g2 g3 => kx E ce q9 H1 locs1 hp (hP.kept fun k q hq => hk q.1 (hP k q hq).lt (fun z => z)) h3 g1 g2 g3) (fun r u t H1 locs1 _ _ hp _ _ hk h3 => kk r H1 locs1 hp (hP.kept fun k q hq => hk q.1 (hP k q hq).lt (fun z => z)) h3)
theorem cm_d {S : Type} {w1 : S → va_W} {post : UInt64 → S → Prop} (hr : va_Run p l e R s m args below meth c H locs cells slots mc ms (F0 m pc ls st0) rest (va_Qd post (fun (u : S) t => wPost D (va_A wc H.size) (w1 u) t) (va_A wc H.size) a) (va_A wc H.size)) (hS : va_S A0 H0 H locs) (hP : va_P D vwCl ws H) (hD : va_D A0 ws) (hA : ∀ q, H0.size ≤ q → A0 q) (isC isR : List Nat) (hC : isC.map (fun i => ws[i]?) = wc.map some) (hR : isR.map (fun i => ws[i]?) = wr.map some) (hn : va_nd isR = true) (hdis : ∀ i ∈ isR, i ∉ isC)
    (kk : ∀ (r : UInt64) (u : S) (H1 : Heap) (locs1 : List Loc), post r u → va_P D vwCl (wr ++ w1 u) H1 → va_D A0 (wr ++ w1 u) → va_S A0 H0 H1 locs1 → W p l e R s m args below meth c H1 locs1 (cells + mc) (slots + ms) Q (F0 m (pc + 3) ls (.double r :: rest))) : W p l e R s m args below meth c H locs cells slots Q (F0 m pc ls st0) := by
  have hF := va_free hD hS hA isC hC
  refine va_calld hr hS (fun q _ h => hF q h) hF (fun r u t H1 locs1 ht _ hp hB _ hk h3 => by
    obtain ⟨hP1, hD1⟩ := hB
    rw [ht] at hP1
    obtain ⟨k1, k2⟩ := va_join hP hD isC isR hC hR hn hdis hk hF hP1 hD1
    exact kk r u H1 locs1 hp k1 k2 h3)
theorem cy_d {S : Type} {w1 : S → va_W} {post : UInt64 → S → Prop} {pX : String → Prop} (hr : vx_Run p l e R s m args below meth c H locs cells slots mc ms (F0 m pc ls st0) rest (va_Qd post (fun (u : S) t => wPost D (va_A wc H.size) (w1 u) t) (va_A wc H.size) a) (vx_X (fun (_ : Unit) => True) (fun E _ _ => pX E) (fun _ => False)) (va_A wc H.size)) (hS : va_S A0 H0 H locs) (hP : va_P D vwCl ws H) (hD : va_D A0 ws) (hA : ∀ q, H0.size ≤ q → A0 q) (isC isR : List Nat) (hC : isC.map (fun i => ws[i]?) = wc.map some) (hR : isR.map (fun i => ws[i]?) = wr.map some) (hn : va_nd isR = true) (hdis : ∀ i ∈ isR, i ∉ isC)
    (kx : ∀ (E : String) (ce : Cell) (q9 : Addr) (H1 : Heap) (locs1 : List Loc), pX E → va_P D vwCl ws H1 → va_S A0 H0 H1 locs1 → H1[q9]? = some ce → ce.vm = .none → s.vm.findClass E = some ce.cls → vx_W p l e R s m args below meth c H1 locs1 (cells + mc) (slots + ms) Q (F0 m pc ls rest) q9)
    (kk : ∀ (r : UInt64) (u : S) (H1 : Heap) (locs1 : List Loc), post r u → va_P D vwCl (wr ++ w1 u) H1 → va_D A0 (wr ++ w1 u) → va_S A0 H0 H1 locs1 → W p l e R s m args below meth c H1 locs1 (cells + mc) (slots + ms) Q (F0 m (pc + 3) ls (.double r :: rest))) : W p l e R s m args below meth c H locs cells slots Q (F0 m pc ls st0) := by
  have hF := va_free hD hS hA isC hC
  refine vx_calld hr hS (fun q _ h => hF q h) hF (fun _ _ h => h.elim) (fun E ce q9 u t H1 locs1 _ _ _ hp _ hk h3 g1 g2 g3 => kx E ce q9 H1 locs1 hp (hP.kept fun k q hq => hk q.1 (hP k q hq).lt (fun z => z)) h3 g1 g2 g3) (fun r u t H1 locs1 ht _ hp hB _ hk h3 => by
    obtain ⟨hP1, hD1⟩ := hB
    rw [ht] at hP1
    obtain ⟨k1, k2⟩ := va_join hP hD isC isR hC hR hn hdis hk hF hP1 hD1
    exact kk r u H1 locs1 hp k1 k2 h3)
end CR
