/-! worlds in parts; arrays of arrays; arrays in a pool -/
theorem va_D_nd {A : Nat → Prop} {ws : va_W} : va_D A ws ↔ (ws.map (fun q => q.1)).Nodup ∧ ∀ q ∈ ws, A q.1 := by
  constructor
  · intro h
    refine ⟨?_, fun q hq => ?_⟩
    · unfold List.Nodup
      rw [List.pairwise_iff_getElem]
      intro i j hi hj hij e
      rw [List.length_map] at hi hj
      rw [List.getElem_map, List.getElem_map] at e
      have := h.1 i j _ _ (List.getElem?_eq_getElem hi) (List.getElem?_eq_getElem hj) e
      omega
    · obtain ⟨k, hk⟩ := List.getElem?_of_mem hq
      exact h.2 k q hk
  · rintro ⟨h1, h2⟩
    refine ⟨fun i j x y hi hj hxy => ?_, fun k q hk => h2 q (List.mem_of_getElem? hk)⟩
    unfold List.Nodup at h1
    rw [List.pairwise_iff_getElem] at h1
    obtain ⟨li, ei⟩ := List.getElem?_eq_some_iff.mp hi
    obtain ⟨lj, ej⟩ := List.getElem?_eq_some_iff.mp hj
    rcases Nat.lt_trichotomy i j with c | c | c
    · exact absurd (by rw [List.getElem_map, List.getElem_map, ei, ej]; exact hxy) (h1 i j (by rw [List.length_map]; exact li) (by rw [List.length_map]; exact lj) c)
    · exact c
    · exact absurd (by rw [List.getElem_map, List.getElem_map, ei, ej]; exact hxy.symm) (h1 j i (by rw [List.length_map]; exact lj) (by rw [List.length_map]; exact li) c)
theorem pm_P {D : va_G} {cl : List vw_C} {ws ws' : va_W} {H : Heap} (h : va_P D cl ws H) (p : ws.Perm ws') : va_P D cl ws' H := by
  intro k q hk
  obtain ⟨i, hi⟩ := List.getElem?_of_mem (p.mem_iff.mpr (List.mem_of_getElem? hk))
  exact h i q hi
theorem pm_D {A : Nat → Prop} {ws ws' : va_W} (h : va_D A ws) (p : ws.Perm ws') : va_D A ws' := by
  rw [va_D_nd] at h ⊢
  exact ⟨(p.map _).nodup_iff.mp h.1, fun q hq => h.2 q (p.mem_iff.mpr hq)⟩
theorem ap_P {D : va_G} {cl : List vw_C} {a b : va_W} {H : Heap} (h : va_P D cl (a ++ b) H) : va_P D cl a H ∧ va_P D cl b H := by
  refine ⟨fun k q hk => ?_, fun k q hk => ?_⟩
  · obtain ⟨i, hi⟩ := List.getElem?_of_mem (List.mem_append_left b (List.mem_of_getElem? hk))
    exact h i q hi
  · obtain ⟨i, hi⟩ := List.getElem?_of_mem (List.mem_append_right a (List.mem_of_getElem? hk))
    exact h i q hi
theorem ap_D {A : Nat → Prop} {a b : va_W} (h : va_D A (a ++ b)) : va_D A a ∧ va_D A b := by
  rw [va_D_nd] at h
  rw [List.map_append] at h
  obtain ⟨h1, h2, h3⟩ := List.nodup_append.mp h.1
  exact ⟨va_D_nd.mpr ⟨h1, fun q hq => h.2 q (List.mem_append_left _ hq)⟩, va_D_nd.mpr ⟨h2, fun q hq => h.2 q (List.mem_append_right _ hq)⟩⟩
theorem pm_free {A0 : Nat → Prop} {ws wc wr : va_W} {H0 H : Heap} {locs : List Loc} (hD : va_D A0 ws) (hS : va_S A0 H0 H locs) (hA : ∀ q, H0.size ≤ q → A0 q) (hC : ws.Perm (wr ++ wc)) : ∀ q, va_A wc H.size q → A0 q := by
  intro q h
  rcases h with ⟨k, e, h⟩ | h
  · exact (va_D_nd.mp hD).2 (q, e) (hC.mem_iff.mpr (List.mem_append_right _ (List.mem_of_getElem? h)))
  · exact hA q (Nat.le_trans hS.1 h)
theorem pm_join {A0 : Nat → Prop} {D : va_G} {cl : List vw_C} {wc wr w1 : va_W} {H H1 : Heap} (hP : va_P D cl (wr ++ wc) H) (hD : va_D A0 (wr ++ wc)) (hk : ∀ q : Nat, q < H.size → ¬ va_A wc H.size q → H1[q]? = H[q]?) (hF : ∀ q, va_A wc H.size q → A0 q) (hP1 : va_P D cl w1 H1) (hD1 : va_D (va_A wc H.size) w1) : va_P D cl (wr ++ w1) H1 ∧ va_D A0 (wr ++ w1) := by
  have apart : ∀ (k : Nat) (q : Nat × va_E), wr[k]? = some q → q.1 < H.size ∧ ¬ va_A wc H.size q.1 := by
    intro k q hq
    have hk0 := (List.getElem?_eq_some_iff.mp hq).1
    have hq' : (wr ++ wc)[k]? = some q := by rw [List.getElem?_append_left hk0]; exact hq
    refine ⟨(hP k q hq').lt, fun h => ?_⟩
    rcases h with ⟨k2, e, h⟩ | h
    · have h' : (wr ++ wc)[wr.length + k2]? = some (q.1, e) := by
        rw [List.getElem?_append_right (by omega), Nat.add_sub_cancel_left]; exact h
      have := hD.1 _ _ q (q.1, e) hq' h' rfl
      omega
    · have := (hP k q hq').lt
      omega
  refine ⟨va_P.app (fun k q hq => ?_) hP1, va_D.app (ap_D hD).1 (hD1.weaken (fun k q _ h => hF q.1 h)) (fun i j x y hx hy hxy => ?_)⟩
  · obtain ⟨g1, g2⟩ := apart k q hq
    exact ((ap_P hP).1 k q hq).kept (hk q.1 g1 g2)
  · exact (apart i x hx).2 (by rw [hxy]; exact hD1.2 j y hy)
theorem wPre_sub {D : va_G} {cI cZ cJ cK : ClassId} {sz : Nat} {ws wc wr : va_W} {U : State} (h : wPre D cI cZ cJ cK sz ws U) (hC : ws.Perm (wr ++ wc)) : wPre D cI cZ cJ cK sz wc U :=
  ⟨h.1, (ap_P (pm_P h.2.1 hC)).2, (ap_D (pm_D h.2.2.1 hC)).2, h.2.2.2⟩
theorem pvP {D : va_G} {cI cZ cJ cK : ClassId} {ws wc wr : va_W} {s : State} {A0 B : Nat → Prop} {H : Heap} {locs : List Loc} {ci q0 b : Nat} {r : vw_C} {fs : List Value} {As : List Value} (hP : va_P D vwCl ws H) (hD : va_D B ws) (hK : va_K D vwCl (KT cI cZ cJ cK) s) (hT : TW s) (hZ : ZW A0 s s.heap) (hS : va_S A0 s.heap H locs) (hC : ws.Perm (wr ++ wc)) (hc : vwCl[ci]? = some r) (he : ws[q0]? = some (b, .inr (ci, fs))) :
    PreV s H r.1 b (va_Pc (.ref b :: As) (wPre D cI cZ cJ cK H.size wc)) As :=
  ⟨wPre_blind, va_recv hK hP hc he, fun U hU hW => ⟨rfl, wPre_now (ap_P (pm_P hP hC)).2 (ap_D (pm_D hD hC)).2 hK hT hZ hS U hU hW⟩⟩
theorem psP {D : va_G} {cI cZ cJ cK : ClassId} {ws wc wr : va_W} {s : State} {A0 B : Nat → Prop} {H : Heap} {locs : List Loc} {As : List Value} (hP : va_P D vwCl ws H) (hD : va_D B ws) (hK : va_K D vwCl (KT cI cZ cJ cK) s) (hT : TW s) (hZ : ZW A0 s s.heap) (hS : va_S A0 s.heap H locs) (hC : ws.Perm (wr ++ wc)) :
    PreS s H (va_Pc As (wPre D cI cZ cJ cK H.size wc)) As :=
  ⟨wPre_blind, fun U hU hW => ⟨rfl, wPre_now (ap_P (pm_P hP hC)).2 (ap_D (pm_D hD hC)).2 hK hT hZ hS U hU hW⟩⟩
theorem vp_cls (c : ClassId) (x : vp_A) : (vp_cell c x).cls = c := by
  obtain ⟨n, f | f | f | f | f⟩ := x <;> rfl
theorem vp_vm (c : ClassId) (x : vp_A) : (vp_cell c x).vm = .none := by
  obtain ⟨n, f | f | f | f | f⟩ := x <;> rfl
theorem as_self (vm : Vm) (k : ClassId) : vm.assignable k k = true := by
  unfold Vm.assignable
  rw [show (256 : Nat) = 255 + 1 from rfl, Vm.assignableAux]
  simp only [beq_self_eq_true, Bool.true_or]
/-- cB is a class, and the component of the class cA -/
def isComp (cA cB : ClassId) (s : State) : Prop := ∃ kA kB : Class, s.vm.classes[cA]? = some kA ∧ (∃ ty : FieldType, kA.kind = .array cB (.array ty)) ∧ s.vm.classes[cB]? = some kB
theorem comp_of {D : va_G} {cl : List vw_C} {tys : List (ClassId × FieldType)} {s : State} {ty : FieldType} {cA cB : ClassId} (hK : va_K D cl tys s) (i j : Nat) (hi : tys[i]? = some (cA, .array ty)) (hj : tys[j]? = some (cB, ty)) (hr : ∀ C, ty ≠ .object C) (ho : (Cond.arrayOver (.array ty)).before #[] s = true) : isComp cA cB s := by
  obtain ⟨comp, c, k, h1, h2, h3, h4, h5⟩ := arrayOverA_spec ho
  have r1 : s.vm.findClass ("[" ++ (FieldType.array ty).toString) = some cA := (hK.2 i _ hi).2
  have r0 : s.vm.findClass (FieldType.array ty).toString = some cB := by
    have := (hK.2 j _ hj).2
    cases ty <;> first | exact absurd rfl (hr _) | exact this
  have e1 : c = cA := Option.some.inj (h5.symm.trans r1)
  have e0 : comp = cB := Option.some.inj (h1.symm.trans r0)
  subst e1
  subst e0
  obtain ⟨-, kB, hkB, -⟩ := (hK.2 j _ hj).1 0 (fun _ => .null)
  exact ⟨k, kB, h3, ⟨ty, h4⟩, hkB⟩
theorem comp_J {D : va_G} {cI cZ cJ cK : ClassId} {s : State} (hK : va_K D vwCl (KT cI cZ cJ cK) s) (hT : TW s) : isComp cJ cI s := comp_of hK 2 0 rfl rfl (fun C h => by cases h) hT.2.2.1
theorem comp_K {D : va_G} {cI cZ cJ cK : ClassId} {s : State} (hK : va_K D vwCl (KT cI cZ cJ cK) s) (hT : TW s) : isComp cK cJ s := comp_of hK 3 2 rfl rfl (fun C h => by cases h) hT.2.2.2
theorem pl_mem {X : va_W} {L : List Nat} {f : Nat → va_E} {a : Nat} {e : va_E} (h : a ∈ L) (he : f a = e) : (a, e) ∈ X ++ va_pl L f := List.mem_append_right _ (List.mem_map.mpr ⟨a, h, by rw [he]⟩)
/-- a pool that has grown, its elder cells as they were -/
def pExt (L : List Nat) (f : Nat → va_E) (L' : List Nat) (f' : Nat → va_E) : Prop := ∀ a, a ∈ L → a ∈ L' ∧ f' a = f a
theorem pExt.rf {L : List Nat} {f : Nat → va_E} : pExt L f L f := fun _ h => ⟨h, rfl⟩
theorem pExt.tr {L L1 L2 : List Nat} {f f1 f2 : Nat → va_E} (h : pExt L f L1 f1) (h2 : pExt L1 f1 L2 f2) : pExt L f L2 f2 := fun a ha => ⟨(h2 a (h a ha).1).1, (h2 a (h a ha).1).2.trans (h a ha).2⟩
theorem pExt.new {L : List Nat} {f : Nat → va_E} {q : Nat} {e : va_E} (h : q ∉ L) : pExt L f (L ++ [q]) (va_up f q e) := fun a ha => ⟨List.mem_append_left _ ha, va_up_ne _ _ (fun z => h (z ▸ ha))⟩
theorem pExt.put {L L' : List Nat} {f f' : Nat → va_E} {q : Nat} {e : va_E} (h : pExt L f L' f') (hq : q ∉ L) : pExt L f L' (va_up f' q e) := fun a ha => ⟨(h a ha).1, (va_up_ne _ _ (fun z => hq (by rw [← z]; exact ha))).trans (h a ha).2⟩
section AR
variable {p : Program} {l : Launch} {e : Env} {R : Room} {s : State} {m : MethodId} {args : Array Value} {below : List Frame} {meth : Method} {c : Code} {H : Heap} {locs : List Loc} {cells slots : Nat} {Q : State → Prop}
variable {cc : ByteArray} {pc : Nat} {ls : Array Slot} {rest : List Value} {D : va_G} {cl : List vw_C} {A : Nat → Prop} {a : Nat} {tys : List (ClassId × FieldType)} {ws X : va_W} {H0 : Heap} {L : List Nat} {f : Nat → va_E}
theorem rd_iald (hexec : p.tables.exec = Jvm.exec) (hb : c.code = cc) (hK : va_K D cl tys s) (hP : va_P D cl ws H) (t0 : Nat) {cA : ClassId} {n : Nat} {g : Nat → Int32} (ha : (a, (.inl (cA, n, .inl g) : va_E)) ∈ ws) (ht : tys[t0]? = some (cA, .int)) {i : Int32} {z : Int} (hi : i = iI z) (k : Nat) (hk : z = (k : Int)) (hlt : k < n) (hn : n < 2147483648) (hdg : decode cc pc = .ok (.iaload, 1))
    (kk : ∀ x : Int32, x = g k → W p l e R s m args below meth c H locs cells slots Q (F0 m (pc + 1) ls (.int x :: rest))) : W p l e R s m args below meth c H locs cells slots Q (F0 m pc ls (.int i :: .ref a :: rest)) := by
  obtain ⟨q0, h0⟩ := List.getElem?_of_mem ha
  exact lz_iald hexec hb hK hP q0 t0 h0 ht hi k hk hlt hn hdg kk
theorem rd_aald (hexec : p.tables.exec = Jvm.exec) (hb : c.code = cc) (hK : va_K D cl tys s) (hP : va_P D cl ws H) (t0 : Nat) {cA : ClassId} {n : Nat} {g : Nat → Option Nat} (ha : (a, (.inl (cA, n, .inr (.inr (.inr (.inr g)))) : va_E)) ∈ ws) {ty : FieldType} (ht : tys[t0]? = some (cA, .array ty)) {i : Int32} {z : Int} (hi : i = iI z) (k : Nat) (hk : z = (k : Int)) (hlt : k < n) (hn : n < 2147483648) {v : Nat} (hv : g k = some v) (hdg : decode cc pc = .ok (.aaload, 1))
    (kk : W p l e R s m args below meth c H locs cells slots Q (F0 m (pc + 1) ls (.ref v :: rest))) : W p l e R s m args below meth c H locs cells slots Q (F0 m pc ls (.int i :: .ref a :: rest)) := by
  subst hi
  obtain ⟨q0, h0⟩ := List.getElem?_of_mem ha
  have hin := iI_in k hk hlt hn
  have hlt' : (iI z).toNatClampNeg < n := Nat.not_le.mp fun q => hin (Or.inr q)
  refine W.aald (v := .ref v) (ty := .array ty) hexec hb (hP q0 _ h0) ((hK.2 t0 _ ht).1 n (fun j => va_rf (g j))) rfl (fun q => by cases q) (by show ¬ (_ ∨ (arrV _ _ _).slots.size ≤ _); rw [arrV_size]; exact hin) ?_ rfl rfl hdg kk
  show (arrV _ _ _).slots[_]? = _
  rw [arrV_read _ _ hlt', iI_cl k hk (by omega), hv]
  rfl
theorem rd_alen (hexec : p.tables.exec = Jvm.exec) (hb : c.code = cc) (hK : va_K D cl tys s) (hP : va_P D cl ws H) (t0 : Nat) {cA : ClassId} {x : vp_A} (ha : (a, (.inl (cA, x) : va_E)) ∈ ws) {ty : FieldType} (ht : tys[t0]? = some (cA, ty)) (hdg : decode cc pc = .ok (.arraylength, 1))
    (kk : ∀ y : Int32, y = iI ↑x.1 → W p l e R s m args below meth c H locs cells slots Q (F0 m (pc + 1) ls (.int y :: rest))) : W p l e R s m args below meth c H locs cells slots Q (F0 m pc ls (.ref a :: rest)) := by
  obtain ⟨q0, h0⟩ := List.getElem?_of_mem ha
  exact va_alen (v := iI ↑x.1) hexec hb hK hP q0 t0 h0 ht (nI_i x.1) hdg (kk _ rfl)
theorem pl_iast (hexec : p.tables.exec = Jvm.exec) (hb : c.code = cc) (hK : va_K D cl tys s) (hP : va_P D cl (X ++ va_pl L f) H) (hD : va_D A (X ++ va_pl L f)) (hS : va_S A H0 H locs) (t0 : Nat) {cA : ClassId} {n : Nat} {g : Nat → Int32} (ha : a ∈ L) (hf : f a = .inl (cA, n, .inl g)) (ht : tys[t0]? = some (cA, .int)) {i x : Int32} {z : Int} (hi : i = iI z) (k : Nat) (hk : z = (k : Int)) (hlt : k < n) (hn : n < 2147483648) (hdg : decode cc pc = .ok (.iastore, 1))
    (kk : ∀ (g2 : Nat → Int32) (H1 : Heap) (locs1 : List Loc), g2 = upd g k x → va_P D cl (X ++ va_pl L (va_up f a (.inl (cA, n, .inl g2)))) H1 → va_D A (X ++ va_pl L (va_up f a (.inl (cA, n, .inl g2)))) → va_S A H0 H1 locs1 → W p l e R s m args below meth c H1 locs1 cells slots Q (F0 m (pc + 1) ls rest)) : W p l e R s m args below meth c H locs cells slots Q (F0 m pc ls (.int x :: .int i :: .ref a :: rest)) := by
  obtain ⟨q0, h0⟩ := va_pl_get (X := X) (f := f) ha
  exact lz_iast hexec hb hK hP hD hS q0 t0 (h0.trans (by rw [hf])) ht hi k hk hlt hn (ws2 := fun g2 => X ++ va_pl L (va_up f a (.inl (cA, n, .inl g2)))) (fun g2 => va_pl_set hD ha h0) hdg kk
theorem pl_aast (hexec : p.tables.exec = Jvm.exec) (hb : c.code = cc) (hK : va_K D cl tys s) (hP : va_P D cl (X ++ va_pl L f) H) (hD : va_D A (X ++ va_pl L f)) (hS : va_S A H0 H locs) {cA cB : ClassId} {n v : Nat} {g : Nat → Option Nat} {xv : vp_A} (ha : a ∈ L) (hf : f a = .inl (cA, n, .inr (.inr (.inr (.inr g))))) (hv : (v, (.inl (cB, xv) : va_E)) ∈ X ++ va_pl L f) (hc : isComp cA cB s) {i : Int32} {z : Int} (hi : i = iI z) (k : Nat) (hk : z = (k : Int)) (hlt : k < n) (hn : n < 2147483648) (hdg : decode cc pc = .ok (.aastore, 1))
    (kk : ∀ (g2 : Nat → Option Nat) (H1 : Heap) (locs1 : List Loc), g2 = va_up g k (some v) → va_P D cl (X ++ va_pl L (va_up f a (.inl (cA, n, .inr (.inr (.inr (.inr g2))))))) H1 → va_D A (X ++ va_pl L (va_up f a (.inl (cA, n, .inr (.inr (.inr (.inr g2))))))) → va_S A H0 H1 locs1 → W p l e R s m args below meth c H1 locs1 cells slots Q (F0 m (pc + 1) ls rest)) : W p l e R s m args below meth c H locs cells slots Q (F0 m pc ls (.ref v :: .int i :: .ref a :: rest)) := by
  subst hi
  obtain ⟨q0, h0⟩ := va_pl_get (X := X) (f := f) ha
  have h0' : (X ++ va_pl L f)[q0]? = some (a, .inl (cA, n, .inr (.inr (.inr (.inr g))))) := h0.trans (by rw [hf])
  obtain ⟨qv, hqv⟩ := List.getElem?_of_mem hv
  obtain ⟨kA, kB, k1, ⟨ty, k2⟩, k3⟩ := hc
  have hin := iI_in k hk hlt hn
  have hlt' : (iI z).toNatClampNeg < n := Nat.not_le.mp fun q => hin (Or.inr q)
  have hz0 : ¬ iI z < 0 := fun q => hin (Or.inl q)
  have hcv : H[v]? = some (vp_cell cB xv) := hP qv _ hqv
  refine W.aast hexec hb (hP q0 _ h0') (fun q h => by cases h) (fun h => by cases h) k1 k2 rfl k3 ⟨hz0, by show _ < (arrV _ _ _).slots.size; rw [arrV_size]; exact hlt'⟩ hcv (fun q h => by rw [vp_vm] at h; cases h) (by rw [vp_cls]; exact k3) (by rw [vp_cls]; exact as_self _ _) rfl rfl hdg fun H1 e z oq => ?_
  have e9 := va_pl_set (e := .inl (cA, n, .inr (.inr (.inr (.inr (va_up g k (some v))))))) hD ha h0
  refine kk (va_up g k (some v)) H1 _ rfl ?_ ?_ (hS.put z oq (hD.2 q0 _ h0'))
  · rw [← e9]
    refine hP.set hD h0' ?_ oq
    show H1[a]? = some (vp_cell _ _)
    rw [e]
    rw [vp_cell_q, vp_cell_q, arrV_store, iI_cl k hk (by omega)]
    congr 2
    funext q
    by_cases hq : q = k
    · subst hq
      simp [updV, va_up, va_rf]
    · simp [updV, va_up, hq]
  · rw [← e9]
    exact hD.set h0'
theorem pl_push {q : Nat} {e : va_E} (hD : va_D A ((X ++ va_pl L f) ++ [(q, e)])) : (X ++ va_pl L f) ++ [(q, e)] = X ++ va_pl (L ++ [q]) (va_up f q e) := by
  rw [List.append_assoc, va_pl_push (va_pl_fresh2 hD)]
theorem pl_new {cI : ClassId} (hexec : p.tables.exec = Jvm.exec) (hb : c.code = cc) (harr : (Cond.arrayClass .int).before args s = true) (t0 : Nat) (ht : tys[t0]? = some (cI, .int)) (hK : va_K D cl tys s) (hP : va_P D cl (X ++ va_pl L f) H) (hD : va_D A (X ++ va_pl L f)) (hS : va_S A H0 H locs) (hA : ∀ q, H0.size ≤ q → A q) {n : Int32} {z : Int} (hz : n = iI z) (N' : Nat) (hN : z = (N' : Int)) (hb1 : N' ≤ 1000) (hcells : cells + 1 ≤ R.cells) (hslots : slots + N' ≤ R.slots) (hdg : decode cc pc = .ok (.newarray .int, 2))
    (kk : ∀ (q : Nat) (H1 : Heap), q ∉ L → va_P D cl (X ++ va_pl (L ++ [q]) (va_up f q (.inl (cI, N', .inl (fun _ => 0))))) H1 → va_D A (X ++ va_pl (L ++ [q]) (va_up f q (.inl (cI, N', .inl (fun _ => 0))))) → va_S A H0 H1 locs → W p l e R s m args below meth c H1 locs (cells + 1) (slots + N') Q (F0 m (pc + 2) ls (.ref q :: rest))) : W p l e R s m args below meth c H locs cells slots Q (F0 m pc ls (.int n :: rest)) := by
  subst hz
  refine va_newa (atype := .int) (ty := .int) (a0 := (N', .inl (fun _ => 0))) (N' := N') hexec hb harr rfl hK hP hD hS hA (fun _ => rfl) (iI_ne N' hN (by omega)) (iI_cl N' hN (by omega)) (by show N' * 4 ≤ _; omega) hcells hslots hdg (fun q cN H1 hK2 hP1 hD1 hS1 => ?_)
  have hk9 := (kt_one hK2 t0 ht (by intro C h; cases h)).symm
  subst hk9
  have hq := va_pl_fresh2 hD1
  rw [pl_push hD1] at hP1
  rw [pl_push hD1] at hD1
  exact kk q H1 hq hP1 hD1 hS1
theorem pl_anew {t : FieldType} {cT : ClassId} (hexec : p.tables.exec = Jvm.exec) (hb : c.code = cc) {own nm : String} {index : Nat} (hown : s.vm.findClass own = some m.cls) (hclink : (Cond.classLink own index nm).before args s = true) (hnm : nm = (FieldType.array t).toString) (hover : (Cond.arrayOver (.array t)).before args s = true) (t0 : Nat) (ht : tys[t0]? = some (cT, .array t)) (hK : va_K D cl tys s) (hP : va_P D cl (X ++ va_pl L f) H) (hD : va_D A (X ++ va_pl L f)) (hS : va_S A H0 H locs) (hA : ∀ q, H0.size ≤ q → A q) {n : Int32} {z : Int} (hz : n = iI z) (N' : Nat) (hN : z = (N' : Int)) (hb1 : N' ≤ 1000) (hcells : cells + 1 ≤ R.cells) (hslots : slots + N' ≤ R.slots) (hdg : decode cc pc = .ok (.anewarray index, 3))
    (kk : ∀ (q : Nat) (H1 : Heap), q ∉ L → va_P D cl (X ++ va_pl (L ++ [q]) (va_up f q (.inl (cT, N', .inr (.inr (.inr (.inr (fun _ => none)))))))) H1 → va_D A (X ++ va_pl (L ++ [q]) (va_up f q (.inl (cT, N', .inr (.inr (.inr (.inr (fun _ => none)))))))) → va_S A H0 H1 locs → W p l e R s m args below meth c H1 locs (cells + 1) (slots + N') Q (F0 m (pc + 3) ls (.ref q :: rest))) : W p l e R s m args below meth c H locs cells slots Q (F0 m pc ls (.int n :: rest)) := by
  subst hz
  subst hnm
  have hcl := iI_cl N' hN (by omega)
  refine W.anewA hexec hb hown hclink hover rfl hdg rfl (iI_ne N' hN (by omega)) (by rw [hcl]; omega) hcells (by rw [hcl]; exact hslots) fun cA kA comp f1 f2 f3 f4 => ?_
  rw [hcl]
  have ec : cA = cT := by
    have := (hK.2 t0 _ ht).2
    exact Option.some.inj (f1.symm.trans this)
  subst ec
  generalize hH1 : H.push ({ cls := cA, slots := Array.replicate N' .null, vm := .none } : Cell) = H1
  have z1 : H1.size = H.size + 1 := by rw [← hH1, Array.size_push]
  have e1 : H1[H.size]? = some (arrV cA N' (fun _ => .null)) := by rw [← hH1, Array.getElem?_push_size, ← arrV_new]
  have o1 : ∀ q : Nat, q < H.size → H1[q]? = H[q]? := fun q hq => by rw [← hH1, Array.getElem?_push, if_neg (Nat.ne_of_lt hq)]
  have hD1 := hD.push (e := .inl (cA, N', .inr (.inr (.inr (.inr (fun _ => none)))))) hP rfl (hA _ hS.1)
  have hP1 : va_P D cl ((X ++ va_pl L f) ++ [(H.size, .inl (cA, N', .inr (.inr (.inr (.inr (fun _ => none))))))]) H1 := (hP.kept (fun k x hx => o1 x.1 ((hP k x hx).lt))).app (fun k x hx => by
    have hz : k < 1 := (List.getElem?_eq_some_iff.mp hx).1
    rw [show k = 0 by omega] at hx
    cases hx
    show H1[H.size]? = some (vp_cell _ _)
    rw [vp_cell_q]
    exact e1)
  have hq := va_pl_fresh2 hD1
  rw [pl_push hD1] at hP1
  rw [pl_push hD1] at hD1
  exact kk H.size H1 hq hP1 hD1 ⟨Nat.le_trans hS.1 (by omega), fun x h1 h2 => (o1 x (Nat.lt_of_lt_of_le h1 hS.1)).trans (hS.2.1 x h1 h2), hS.2.2⟩
end AR
