/-! the class's cells in one; the state that both sides keep -/
def va_AS : Type := Nat × (Nat → Nat) × (Nat → Int) × (Nat → Nat) × (Nat → List Nat) × (Nat → Int) × (Nat → Int32) × (Nat → Int32) × Int32 × Int32
abbrev aN (Z : va_AS) : Nat := Z.1
abbrev aH (Z : va_AS) : Nat → Nat := Z.2.1
abbrev aV (Z : va_AS) : Nat → Int := Z.2.2.1
abbrev aL (Z : va_AS) : Nat → Nat := Z.2.2.2.1
abbrev aR (Z : va_AS) : Nat → List Nat := Z.2.2.2.2.1
abbrev aK (Z : va_AS) : Nat → Int := Z.2.2.2.2.2.1
abbrev aM (Z : va_AS) : Nat → Int32 := Z.2.2.2.2.2.2.1
abbrev aG (Z : va_AS) : Nat → Int32 := Z.2.2.2.2.2.2.2.1
abbrev aT (Z : va_AS) : Int32 := Z.2.2.2.2.2.2.2.2.1
abbrev aQ (Z : va_AS) : Int32 := Z.2.2.2.2.2.2.2.2.2
def CX : Type := (Nat → Int32) × (Nat → Nat → Int32)
def clsW (cI cZ : ClassId) (ad : Nat → Nat) (cx : CX) : va_W :=
  [(ad 0, .inr (3, [.ref (ad 1), .ref (ad 6), .ref (ad 12), .ref (ad 18), .int (cx.1 0)])), (ad 1, .inr (0, [.ref (ad 2), .ref (ad 3), .ref (ad 4), .ref (ad 5), .int (cx.1 1)])),
   (ad 2, .inl (cI, 40, .inl (cx.2 0))), (ad 3, .inl (cI, 40, .inl (cx.2 1))), (ad 4, .inl (cI, 40, .inl (cx.2 2))), (ad 5, .inl (cZ, 40, .inl (cx.2 3))),
   (ad 6, .inr (1, [.ref (ad 1), .int (cx.1 2), .ref (ad 7), .ref (ad 9), .ref (ad 11), .int (cx.1 3), .int (cx.1 4), .int (cx.1 5)])), (ad 7, .inr (2, [.ref (ad 8), .int (cx.1 6)])), (ad 8, .inl (cI, 40, .inl (cx.2 4))), (ad 9, .inr (2, [.ref (ad 10), .int (cx.1 7)])), (ad 10, .inl (cI, 40, .inl (cx.2 5))), (ad 11, .inl (cI, 11, .inl (cx.2 6))),
   (ad 12, .inr (1, [.ref (ad 1), .int (cx.1 8), .ref (ad 13), .ref (ad 15), .ref (ad 17), .int (cx.1 9), .int (cx.1 10), .int (cx.1 11)])), (ad 13, .inr (2, [.ref (ad 14), .int (cx.1 12)])), (ad 14, .inl (cI, 40, .inl (cx.2 7))), (ad 15, .inr (2, [.ref (ad 16), .int (cx.1 13)])), (ad 16, .inl (cI, 40, .inl (cx.2 8))), (ad 17, .inl (cI, 11, .inl (cx.2 9))),
   (ad 18, .inr (1, [.ref (ad 1), .int (cx.1 14), .ref (ad 19), .ref (ad 21), .ref (ad 23), .int (cx.1 15), .int (cx.1 16), .int (cx.1 17)])), (ad 19, .inr (2, [.ref (ad 20), .int (cx.1 18)])), (ad 20, .inl (cI, 40, .inl (cx.2 10))), (ad 21, .inr (2, [.ref (ad 22), .int (cx.1 19)])), (ad 22, .inl (cI, 40, .inl (cx.2 11))), (ad 23, .inl (cI, 11, .inl (cx.2 12)))]
def CStx (Z : va_AS) (cx : CX) : Prop :=
  embIs (cx.1 1) (cx.2 0) (aN Z) (aH Z) ∧ (∀ i, i < aN Z → cx.2 1 i = iI (aV Z i)) ∧ cx.2 2 = aM Z ∧ (∀ i, i < 40 → cx.2 3 i = iI (aK Z i)) ∧ (cx.1 2 = iI 1 ∧ cx.1 8 = iI 1 ∧ cx.1 14 = iI 0) ∧ heaIs (cx.1 3) (cx.1 6) (cx.2 4) (cx.2 6) (aL Z 0) (aN Z) (aH Z) (aR Z 0) ∧ heaIs (cx.1 9) (cx.1 12) (cx.2 7) (cx.2 9) (aL Z 1) (aN Z) (aH Z) (aR Z 1) ∧
  cx.1 4 + cx.1 10 = aT Z ∧ cx.1 5 = aG Z 0 ∧ cx.1 11 = aG Z 1 ∧ cx.1 0 = aQ Z
def inH (n : Nat) (av : Nat → Int) (h : Nat) (L : List Nat) : Prop := ∀ x, x ∈ L ↔ x < n ∧ av x = (↑h : Int)
def AI (Z : va_AS) : Prop := aN Z ≤ 40 ∧ (∀ i, i < aN Z → aH Z i < 1024 ∧ -1 ≤ aV Z i ∧ aV Z i ≤ 1) ∧ (∀ h, h < 2 → inH (aN Z) (aV Z) h (aR Z h) ∧ heaOk (aL Z h) (aH Z) (aR Z h) ∧ aL Z h < 1024) ∧ (∀ i, i < 40 → aK Z i = 0 ∨ aK Z i = 1) ∧ ∀ i, i < 40 → (aN Z ≤ i ∨ aV Z i ≠ -1) → aK Z i = 0
def bkL (κ : Nat → Nat) (L : List Nat) (b : Nat) : List Nat := L.filter (fun x => κ x == b)
def rwA (Z : va_AS) (h b : Nat) : List Nat := bkL (ka (aL Z h) (aH Z)) (aR Z h) b
/-! a contract over more than it needs -/
section MET
variable {l : Launch} {y : MethodName} {ws : List Cond} {rm : Room} {Pc : Array Value → State → Prop} {Qc : Array Value → State → Outcome → State → Prop} {XC : String → State → State → Prop} {mc ms : Nat} {free : Addr → Prop}
variable {D : va_G} {cI cZ cJ cK : ClassId} {hz9 : Nat} {av : List Value} {WS wc wr : va_W}
theorem met_vx (h : vx_Met l y ws rm Pc Qc XC mc ms free) (hno : ∀ E s t, ¬ XC E s t) : Met l y ws rm Pc Qc mc ms free := by
  intro p e h1 h2 h3 s m args below hf happ hP hK
  obtain ⟨n, o, a1, a2, a3, a4⟩ := h p e h1 h2 h3 s m args below hf happ hP hK
  refine ⟨n, o, a1, a2, a3, ?_⟩
  rcases a4 with a4 | ⟨q, -, E, ce, L, hx, -⟩
  · exact a4
  · exact absurd hx (hno E s _)
theorem wPre_is {U : State} (h : wPre D cI cZ cJ cK hz9 WS U) (is : List Nat) (hs : is.map (fun i => WS[i]?) = wc.map some) (hn : va_nd is = true) : wPre D cI cZ cJ cK hz9 wc U := ⟨h.1, va_P_subm h.2.1 is hs, h.2.2.1.sub is hn hs, h.2.2.2⟩
theorem met_is (h : Met l y ws rm (va_Pc av (wPre D cI cZ cJ cK hz9 wc)) Qc mc ms free) (is : List Nat) (hs : is.map (fun i => WS[i]?) = wc.map some) (hn : va_nd is = true) : Met l y ws rm (va_Pc av (wPre D cI cZ cJ cK hz9 WS)) Qc mc ms free := by
  intro p e h1 h2 h3 s m args below hf happ hP hK
  exact h p e h1 h2 h3 s m args below hf happ ⟨hP.1, wPre_is hP.2 is hs hn⟩ hK
theorem vx_is (h : vx_Met l y ws rm (va_Pc av (wPre D cI cZ cJ cK hz9 wc)) Qc XC mc ms free) (is : List Nat) (hs : is.map (fun i => WS[i]?) = wc.map some) (hn : va_nd is = true) : vx_Met l y ws rm (va_Pc av (wPre D cI cZ cJ cK hz9 WS)) Qc XC mc ms free := by
  intro p e h1 h2 h3 s m args below hf happ hP hK
  exact h p e h1 h2 h3 s m args below hf happ ⟨hP.1, wPre_is hP.2 is hs hn⟩ hK
theorem met_qi {S : Type} {post post2 : Int32 → S → Prop} {B : S → State → Prop} {A : Nat → Prop} (h : Met l y ws rm Pc (va_Qi post B A) mc ms free) (hp : ∀ r u, post r u → post2 r u) : Met l y ws rm Pc (va_Qi post2 B A) mc ms free := by
  intro p e h1 h2 h3 s m args below hf happ hP hK
  obtain ⟨n, o, a1, a2, a3, ⟨⟨r, u, b1, b2, b3⟩, b4⟩, b5⟩ := h p e h1 h2 h3 s m args below hf happ hP hK
  exact ⟨n, o, a1, a2, a3, ⟨⟨r, u, b1, hp r u b2, b3⟩, b4⟩, b5⟩
theorem met_ql {S : Type} {post post2 : Int64 → S → Prop} {B : S → State → Prop} {A : Nat → Prop} (h : Met l y ws rm Pc (va_Ql post B A) mc ms free) (hp : ∀ r u, post r u → post2 r u) : Met l y ws rm Pc (va_Ql post2 B A) mc ms free := by
  intro p e h1 h2 h3 s m args below hf happ hP hK
  obtain ⟨n, o, a1, a2, a3, ⟨⟨r, u, b1, b2, b3⟩, b4⟩, b5⟩ := h p e h1 h2 h3 s m args below hf happ hP hK
  exact ⟨n, o, a1, a2, a3, ⟨⟨r, u, b1, hp r u b2, b3⟩, b4⟩, b5⟩
theorem up_core {S : Type} {w1 : S → va_W} {st t : State} (isC isR : List Nat) (hC : isC.map (fun i => WS[i]?) = wc.map some) (hR : isR.map (fun i => WS[i]?) = wr.map some) (hn : va_nd isR = true) (hdis : ∀ i ∈ isR, i ∉ isC) (hP : wPre D cI cZ cJ cK hz9 WS st) (u : S) (hB : wPost D (va_A wc hz9) (w1 u) t) (hF : va_F (va_A wc hz9) st t) :
    (∀ q, va_A wc hz9 q → va_A WS hz9 q) ∧ va_P D vwCl (wr ++ w1 u) t.heap ∧ va_D (va_A WS hz9) (wr ++ w1 u) ∧ va_F (va_A WS hz9) st t := by
  obtain ⟨h0, h1, h2, -⟩ := hP
  subst h0
  have hF9 : ∀ q, va_A wc st.heap.size q → va_A WS st.heap.size q := by
    intro q hq
    rcases hq with ⟨k, e, hk⟩ | hq
    · have e1 : (isC.map (fun i => WS[i]?))[k]? = some (some (q, e)) := by rw [hC, List.getElem?_map, hk]; rfl
      rw [List.getElem?_map] at e1
      cases hi : isC[k]? with
      | none => rw [hi] at e1; cases e1
      | some i => rw [hi] at e1; exact Or.inl ⟨i, e, Option.some.inj e1⟩
    · exact Or.inr hq
  obtain ⟨k1, k2⟩ := va_join h1 h2.self isC isR hC hR hn hdis hF.2 hF9 hB.1 hB.2
  exact ⟨hF9, k1, k2, hF.1, fun q g1 g2 => hF.2 q g1 (fun z => g2 (hF9 q z))⟩
theorem met_up {S : Type} {w1 : S → va_W} {post : Int32 → S → Prop} {post2 : Int32 → CX → Prop} {ad : Nat → Nat} (h : Met l y ws rm (va_Pc av (wPre D cI cZ cJ cK hz9 wc)) (va_Qi post (fun (u : S) t => wPost D (va_A wc hz9) (w1 u) t) (va_A wc hz9)) mc ms (va_A wc hz9)) (isC isR is2 : List Nat) (hC : isC.map (fun i => WS[i]?) = wc.map some) (hnC : va_nd isC = true) (hR : isR.map (fun i => WS[i]?) = wr.map some) (hn : va_nd isR = true) (hdis : ∀ i ∈ isR, i ∉ isC) (pk : S → CX) (h2 : ∀ u, is2.map (fun i => (wr ++ w1 u)[i]?) = (clsW cI cZ ad (pk u)).map some) (hn2 : va_nd is2 = true) (hp : ∀ r u, post r u → post2 r (pk u)) :
    Met l y ws rm (va_Pc av (wPre D cI cZ cJ cK hz9 WS)) (va_Qi post2 (fun (u : CX) t => wPost D (va_A WS hz9) (clsW cI cZ ad u) t) (va_A WS hz9)) mc ms (va_A WS hz9) := by
  intro p e h3 h4 h5 s m args below hf happ hP hK
  obtain ⟨n, o, a1, a2, a3, ⟨⟨r, u, b1, b2, b3⟩, b4⟩, L, b5, b6⟩ := h p e h3 h4 h5 s m args below hf happ ⟨hP.1, wPre_is hP.2 isC hC hnC⟩ hK
  obtain ⟨k1, k2, k3, k4⟩ := up_core isC isR hC hR hn hdis hP.2 u b3 b4
  exact ⟨n, o, a1, a2, a3, ⟨⟨r, pk u, b1, hp r u b2, va_P_subm k2 is2 (h2 u), k3.sub is2 hn2 (h2 u)⟩, k4⟩, L, b5, fun q hq => k1 _ (b6 q hq)⟩
theorem vx_up {S : Type} {w1 : S → va_W} {post : Int32 → S → Prop} {post2 : Int32 → CX → Prop} {ad : Nat → Nat} {px px2 : String → Prop} (h : vx_Met l y ws rm (va_Pc av (wPre D cI cZ cJ cK hz9 wc)) (va_Qi post (fun (u : S) t => wPost D (va_A wc hz9) (w1 u) t) (va_A wc hz9)) (vx_X (fun (_ : Unit) => True) (fun E _ _ => px E) (fun _ => False)) mc ms (va_A wc hz9)) (isC isR is2 : List Nat) (hC : isC.map (fun i => WS[i]?) = wc.map some) (hnC : va_nd isC = true) (hR : isR.map (fun i => WS[i]?) = wr.map some) (hn : va_nd isR = true) (hdis : ∀ i ∈ isR, i ∉ isC) (pk : S → CX) (h2 : ∀ u, is2.map (fun i => (wr ++ w1 u)[i]?) = (clsW cI cZ ad (pk u)).map some) (hn2 : va_nd is2 = true) (hp : ∀ r u, post r u → post2 r (pk u)) (hpx : ∀ E, px E → px2 E) :
    vx_Met l y ws rm (va_Pc av (wPre D cI cZ cJ cK hz9 WS)) (va_Qi post2 (fun (u : CX) t => wPost D (va_A WS hz9) (clsW cI cZ ad u) t) (va_A WS hz9)) (vx_X (fun (_ : Unit) => True) (fun E _ _ => px2 E) (fun _ => False)) mc ms (va_A WS hz9) := by
  intro p e h3 h4 h5 s m args below hf happ hP hK
  have hF9 : ∀ q, va_A wc hz9 q → va_A WS hz9 q := by
    intro q hq
    rcases hq with ⟨k, e, hk⟩ | hq
    · have e1 : (isC.map (fun i => WS[i]?))[k]? = some (some (q, e)) := by rw [hC, List.getElem?_map, hk]; rfl
      rw [List.getElem?_map] at e1
      cases hi : isC[k]? with
      | none => rw [hi] at e1; cases e1
      | some i => rw [hi] at e1; exact Or.inl ⟨i, e, Option.some.inj e1⟩
    · exact Or.inr hq
  obtain ⟨n, o, a1, a2, a3, a4⟩ := h p e h3 h4 h5 s m args below hf happ ⟨hP.1, wPre_is hP.2 isC hC hnC⟩ hK
  refine ⟨n, o, a1, a2, a3, ?_⟩
  rcases a4 with ⟨⟨⟨r, u, b1, b2, b3⟩, b4⟩, L, b5, b6⟩ | ⟨q, b1, E, ce, L, ⟨u, c1, c2, c3⟩, d1, d2, d3, d4, d5, d6⟩
  · obtain ⟨k1, k2, k3, k4⟩ := up_core isC isR hC hR hn hdis hP.2 u b3 b4
    exact Or.inl ⟨⟨⟨r, pk u, b1, hp r u b2, va_P_subm k2 is2 (h2 u), k3.sub is2 hn2 (h2 u)⟩, k4⟩, L, b5, fun q hq => k1 _ (b6 q hq)⟩
  · exact Or.inr ⟨q, b1, E, ce, L, ⟨u, c1, hpx E c2, c3⟩, d1, d2, d3, d4, d5, fun z hz => hF9 _ (d6 z hz)⟩
end MET
