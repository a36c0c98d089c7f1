/-! the mean: what draws -/
theorem va_unb {p : Program} {l : Launch} {e : Env} {R : Room} {s : State} {m : MethodId} {args : Array Value} {below : List Frame} {meth : Method} {c : Code} {H : Heap} {locs : List Loc} {cells slots : Nat} {Q : State → Prop} {g : JFrame} (k : W p l e R s m args below meth c H locs cells slots Q g) : W p l e R (s.setDrawn s.drawn) m args below meth c H locs cells slots Q g := k
theorem sumF (Hh : Nat → Nat) : ∀ (L : List Nat) (a : Nat), L.foldl (fun a x => a + Hh x) a = a + sumL Hh L
  | [], a => rfl
  | y :: T, a => by
    show T.foldl (fun a x => a + Hh x) (a + Hh y) = a + T.foldl (fun a x => a + Hh x) (0 + Hh y)
    rw [sumF Hh T, sumF Hh T (0 + Hh y)]
    omega
theorem sumL_cons (Hh : Nat → Nat) (y : Nat) (T : List Nat) : sumL Hh (y :: T) = Hh y + sumL Hh T := by
  show T.foldl (fun a x => a + Hh x) (0 + Hh y) = _
  rw [sumF]
  omega
theorem sumL_app (Hh : Nat → Nat) (A B : List Nat) : sumL Hh (A ++ B) = sumL Hh A + sumL Hh B := by
  show (A ++ B).foldl (fun a x => a + Hh x) 0 = _
  rw [List.foldl_append]
  exact sumF Hh B _
def meP (S N : Nat) (r : UInt64) : Prop := (N = 0 → r = FP.dconst0) ∧ (N ≠ 0 → alike64 r (FP.ddiv (FP.i2d (iI ↑S)) (FP.i2d (iI ↑N))) = true)
section CRD
variable {p : Program} {l : Launch} {e : Env} {R : Room} {s : State} {m : MethodId} {args : Array Value} {below : List Frame} {meth : Method} {c : Code} {H : Heap} {locs : List Loc} {cells slots : Nat} {Q : State → Prop}
variable {pc : Nat} {ls : Array Slot} {rest st0 : List Value} {D : va_G} {A0 : Nat → Prop} {a : Array Value} {ws wc wr : va_W} {H0 : Heap} {mc ms : Nat} {cs : List Choice} {d0 : Drawn}
theorem cr_dD (hd0 : s.drawn.sameBut d0 cs) {post : UInt64 → Unit → Prop} (hr : va_RunD cs p l e R (s.setDrawn d0) m args below meth c H locs cells slots mc ms (F0 m pc ls st0) rest (va_Qd post (fun (_ : Unit) _ => True) (fun _ => False) a) (fun _ => False)) (hS : va_S A0 H0 H locs) (hP : va_P D vwCl ws H)
    (kk : ∀ (r : UInt64) (H1 : Heap) (locs1 : List Loc) (d1 : Drawn), s.drawn.sameBut d1 cs → post r () → va_P D vwCl ws H1 → va_S A0 H0 H1 locs1 → W p l e R (s.setDrawn d1) m args below meth c H1 locs1 (cells + mc) (slots + ms) Q (F0 m (pc + 3) ls (.double r :: rest))) : W p l e R (s.setDrawn d0) m args below meth c H locs cells slots Q (F0 m pc ls st0) :=
  va_calldD hd0 hr hS (fun _ _ h => h.elim) (fun _ h => h.elim) (fun r u t H1 locs1 _ _ hp _ _ hk h3 d1 hd1 => kk r H1 locs1 d1 hd1 hp (hP.kept fun k q hq => hk q.1 (hP k q hq).lt (fun z => z)) h3)
end CRD
theorem me_dec (x : UInt64) : isNaN64 x = true ↔ FP.Core.decode FP.Core.b64 x.toNat = .nan := by
  have hE : FP.Core.fieldE FP.Core.b64 x.toNat = x.toNat / 4503599627370496 % 2048 := rfl
  have hT : FP.Core.fieldT FP.Core.b64 x.toNat = x.toNat % 4503599627370496 := rfl
  have hN : isNaN64 x = true ↔ 9218868437227405312 < x.toNat % 9223372036854775808 := by
    rw [isNaN64_iff, show (0x7fffffffffffffff : Nat) = 2 ^ 63 - 1 from rfl, Nat.and_two_pow_sub_one_eq_mod]
  rw [hN]
  unfold FP.Core.decode
  rw [hE, hT, show FP.Core.b64.exps - 1 = 2047 from rfl]
  by_cases c1 : x.toNat / 4503599627370496 % 2048 = 2047
  · rw [if_pos c1]
    by_cases c2 : x.toNat % 4503599627370496 = 0
    · rw [if_pos c2]
      exact ⟨fun h => by exfalso; omega, fun h => by cases h⟩
    · rw [if_neg c2]
      exact ⟨fun _ => rfl, fun _ => by omega⟩
  · rw [if_neg c1]
    refine ⟨fun h => by exfalso; omega, fun h => ?_⟩
    by_cases c2 : x.toNat / 4503599627370496 % 2048 = 0
    · rw [if_pos c2] at h; cases h
    · rw [if_neg c2] at h; cases h
theorem me_cs (a : Int) : compare a a = Ordering.eq := by simp [compare, compareOfLessAndEq]
theorem me_cmp (x : UInt64) : (isNaN64 x = true ∧ Op.cmpValue (FP.dcmp x x) CmpOp.l ≠ 0) ∨ (isNaN64 x = false ∧ Op.cmpValue (FP.dcmp x x) CmpOp.l = 0) := by
  have hd : FP.dcmp x x = FP.Core.order (FP.Core.decode FP.Core.b64 x.toNat) (FP.Core.decode FP.Core.b64 x.toNat) := rfl
  have hn := me_dec x
  rw [hd]
  generalize FP.Core.decode FP.Core.b64 x.toNat = d at hn ⊢
  have hf : d ≠ .nan → isNaN64 x = false := fun h => by
    cases h1 : isNaN64 x with
    | false => rfl
    | true => exact absurd (hn.mp h1) h
  cases d with
  | nan => exact Or.inl ⟨hn.mpr rfl, by decide⟩
  | inf b =>
    refine Or.inr ⟨hf (fun h => by cases h), ?_⟩
    show Op.cmpValue (some (compare _ _)) CmpOp.l = 0
    rw [me_cs]; rfl
  | fin b k w =>
    refine Or.inr ⟨hf (fun h => by cases h), ?_⟩
    show Op.cmpValue (some (compare _ _)) CmpOp.l = 0
    rw [me_cs]; rfl
theorem me_zero : isNaN64 FP.dconst0 = false := by decide
/-! a quotient of whole numbers is a number -/
section NUM
def okD : FP.Core.Datum → Prop
  | .nan => False
  | .inf _ => True
  | .fin _ c q => c < 2 ^ 53 ∧ q ≤ 971
theorem ok_bound (s : Bool) {c : Nat} {q : Int} (h : c < 2 ^ 53) : okD (FP.Core.bound FP.Core.b64 s c q) := by
  unfold FP.Core.bound
  split
  · next hq => exact ⟨h, Int.le_trans hq (by decide)⟩
  · trivial
theorem ok_settle (s : Bool) (c : Nat) (q : Int) : okD (FP.Core.settle FP.Core.b64 s c q) := by
  unfold FP.Core.settle
  split
  · exact ok_bound s (by assumption)
  · exact ok_bound s (by decide)
theorem ok_ratio (s : Bool) (A B : Nat) (e : Int) : okD (FP.Core.roundRatio FP.Core.b64 s A B e) := by
  unfold FP.Core.roundRatio
  split
  · exact ⟨by decide, by decide⟩
  · exact ok_settle s _ _
theorem ok_round {d : FP.Core.Datum} (h : d ≠ .nan) : okD (FP.Core.round FP.Core.b64 d) := by
  cases d with
  | nan => exact absurd rfl h
  | inf s => trivial
  | fin s c q => exact ok_ratio s c 1 q
theorem ok_quot {x : FP.Core.Datum} (hx : x ≠ .nan) {t : Bool} {d : Nat} {r : Int} (hd : d ≠ 0) : okD (FP.Core.quotient FP.Core.b64 x (.fin t d r)) := by
  cases x with
  | nan => exact absurd rfl hx
  | inf s => trivial
  | fin s c q =>
    show okD (if d = 0 then (if c = 0 then .nan else .inf (s != t)) else FP.Core.roundRatio FP.Core.b64 (s != t) c d (q - r))
    rw [if_neg hd]
    exact ok_ratio _ _ _ _
theorem ok_enc {d : FP.Core.Datum} (h : okD d) : isNaN64 (.ofNat (FP.Core.encode FP.Core.b64 d)) = false := by
  have key : ∀ (s : Bool) (e t : Nat), e ≤ 2047 → t < 4503599627370496 → (e = 2047 → t = 0) → isNaN64 (.ofNat (FP.Core.assemble FP.Core.b64 s e t)) = false := by
    intro s e t he ht h0
    cases hn : isNaN64 (.ofNat (FP.Core.assemble FP.Core.b64 s e t)) with
    | false => rfl
    | true =>
      exfalso
      rw [isNaN64_iff, show (0x7fffffffffffffff : Nat) = 2 ^ 63 - 1 from rfl, Nat.and_two_pow_sub_one_eq_mod] at hn
      have ha : FP.Core.assemble FP.Core.b64 s e t = (s.toNat * 2048 + e) * 4503599627370496 + t := rfl
      rw [ha] at hn
      have hs : s.toNat ≤ 1 := by cases s <;> decide
      have hlt : (s.toNat * 2048 + e) * 4503599627370496 + t < 2 ^ 64 := by omega
      rw [UInt64.toNat_ofNat', Nat.mod_eq_of_lt hlt] at hn
      omega
  cases d with
  | nan => exact h.elim
  | inf s => exact key s 2047 0 (by decide) (by decide) (fun _ => rfl)
  | fin s c q =>
    obtain ⟨h1, h2⟩ := h
    show isNaN64 (.ofNat (if c < 4503599627370496 then FP.Core.assemble FP.Core.b64 s 0 c else FP.Core.assemble FP.Core.b64 s ((q - (-1074)).toNat + 1) (c - 4503599627370496))) = false
    split
    · exact key s 0 c (by decide) (by assumption) (fun z => by cases z)
    · exact key s _ _ (by omega) (by omega) (fun z => by omega)
theorem i2d_num (x : Int32) : isNaN64 (FP.i2d x) = false := ok_enc (ok_round (d := FP.Core.ofInt x.toInt) (fun z => by cases z))
def denOk (y : FP.Core.Datum) : Bool := match y with
  | .fin _ d _ => d != 0
  | _ => false
theorem i2d_den : ∀ k : Fin 41, k.val = 0 ∨ denOk (FP.Core.decode FP.Core.b64 (FP.i2d (iI ↑k.val)).toNat) = true := by decide +kernel
theorem div_num (x : Int32) {N : Nat} (h0 : N ≠ 0) (hN : N ≤ 40) : isNaN64 (FP.ddiv (FP.i2d x) (FP.i2d (iI ↑N))) = false := by
  have h1 := i2d_den ⟨N, by omega⟩
  have h1 : N = 0 ∨ denOk (FP.Core.decode FP.Core.b64 (FP.i2d (iI ↑N)).toNat) = true := h1
  rcases h1 with h1 | h1
  · exact absurd h1 h0
  have hx : FP.Core.decode FP.Core.b64 (FP.i2d x).toNat ≠ .nan := fun z => by
    have h2 := (me_dec (FP.i2d x)).mpr z
    rw [i2d_num x] at h2
    cases h2
  show isNaN64 (.ofNat (FP.Core.encode FP.Core.b64 (FP.Core.quotient FP.Core.b64 (FP.Core.decode FP.Core.b64 (FP.i2d x).toNat) (FP.Core.decode FP.Core.b64 (FP.i2d (iI ↑N)).toNat)))) = false
  generalize FP.Core.decode FP.Core.b64 (FP.i2d (iI ↑N)).toNat = y at h1 ⊢
  cases y with
  | nan => cases h1
  | inf s => cases h1
  | fin t d r => exact ok_enc (ok_quot hx (fun z => by subst z; cases h1))
end NUM
theorem al_num {x y : UInt64} (h : alike64 x y = true) (hy : isNaN64 y = false) : x = y := by
  simp only [alike64, Bool.or_eq_true, decide_eq_true_eq, Bool.and_eq_true] at h
  rcases h with h | h
  · exact h
  · rw [hy] at h; cases h.2
theorem me_eq {S N : Nat} {x y : UInt64} (hN : N ≤ 40) (hx : meP S N x) (hy : meP S N y) : Op.cmpValue (FP.dcmp x y) CmpOp.l = 0 := by
  by_cases c : N = 0
  · rw [hx.1 c, hy.1 c]
    rcases me_cmp FP.dconst0 with h | h
    · rw [me_zero] at h; cases h.1
    · exact h.2
  · have hn := div_num (iI ↑S) c hN
    rw [al_num (hx.2 c) hn, al_num (hy.2 c) hn]
    rcases me_cmp (FP.ddiv (FP.i2d (iI ↑S)) (FP.i2d (iI ↑N))) with h | h
    · rw [hn] at h; cases h.1
    · exact h.2
theorem metd_is {l : Launch} {y : MethodName} {ws : List Cond} {rm : Room} {Qc : Array Value → State → Outcome → State → Prop} {mc ms : Nat} {free : Addr → Prop} {cs : List Choice} {D : va_G} {cI cZ cJ cK : ClassId} {hz9 : Nat} {av : List Value} {WS wc : va_W} (h : MetD cs l y ws rm (va_Pc av (wPre D cI cZ cJ cK hz9 wc)) Qc mc ms free) (is : List Nat) (hs : is.map (fun i => WS[i]?) = wc.map some) (hn : va_nd is = true) : MetD cs l y ws rm (va_Pc av (wPre D cI cZ cJ cK hz9 WS)) Qc mc ms free := by
  intro p e h1 h2 h3 s m args below hf happ hP hK
  exact h p e h1 h2 h3 s m args below hf happ ⟨hP.1, wPre_is hP.2 is hs hn⟩ hK
