/-! the law's calls that draw; the means -/
section CRD
variable {p : Program} {l : Launch} {e : Env} {R : Room} {s : State} {m : MethodId} {args : Array Value} {below : List Frame} {meth : Method} {c : Code} {H : Heap} {locs : List Loc} {cells slots : Nat} {Q : State → Prop}
variable {pc : Nat} {ls : Array Slot} {rest st0 : List Value} {D : va_G} {A0 : Nat → Prop} {a : Array Value} {ws wc wr : va_W} {H0 : Heap} {mc ms : Nat} {cs : List Choice} {d0 : Drawn}
theorem cr_dD (hd0 : s.drawn.sameBut d0 cs) {post : UInt64 → Unit → Prop} (hr : va_RunD cs p l e R (s.setDrawn d0) m args below meth c H locs cells slots mc ms (F0 m pc ls st0) rest (va_Qd post (fun (_ : Unit) _ => True) (fun _ => False) a) (fun _ => False)) (hS : va_S A0 H0 H locs) (hP : va_P D vwCl ws H)
    (kk : ∀ (r : UInt64) (H1 : Heap) (locs1 : List Loc) (d1 : Drawn), s.drawn.sameBut d1 cs → post r () → va_P D vwCl ws H1 → va_S A0 H0 H1 locs1 → W p l e R (s.setDrawn d1) m args below meth c H1 locs1 (cells + mc) (slots + ms) Q (F0 m (pc + 3) ls (.double r :: rest))) : W p l e R (s.setDrawn d0) m args below meth c H locs cells slots Q (F0 m pc ls st0) :=
  va_calldD hd0 hr hS (fun _ _ h => h.elim) (fun _ h => h.elim) (fun r u t H1 locs1 _ _ hp _ _ hk h3 d1 hd1 => kk r H1 locs1 d1 hd1 hp (hP.kept fun k q hq => hk q.1 (hP k q hq).lt (fun z => z)) h3)
theorem cm_dD (hd0 : s.drawn.sameBut d0 cs) {S : Type} {w1 : S → va_W} {post : UInt64 → S → Prop} (hr : va_RunD cs p l e R (s.setDrawn d0) m args below meth c H locs cells slots mc ms (F0 m pc ls st0) rest (va_Qd post (fun (u : S) t => wPost D (va_A wc H.size) (w1 u) t) (va_A wc H.size) a) (va_A wc H.size)) (hS : va_S A0 H0 H locs) (hP : va_P D vwCl ws H) (hD : va_D A0 ws) (hA : ∀ q, H0.size ≤ q → A0 q) (isC isR : List Nat) (hC : isC.map (fun i => ws[i]?) = wc.map some) (hR : isR.map (fun i => ws[i]?) = wr.map some) (hn : va_nd isR = true) (hdis : ∀ i ∈ isR, i ∉ isC)
    (kk : ∀ (r : UInt64) (u : S) (H1 : Heap) (locs1 : List Loc) (d1 : Drawn), s.drawn.sameBut d1 cs → post r u → va_P D vwCl (wr ++ w1 u) H1 → va_D A0 (wr ++ w1 u) → va_S A0 H0 H1 locs1 → W p l e R (s.setDrawn d1) m args below meth c H1 locs1 (cells + mc) (slots + ms) Q (F0 m (pc + 3) ls (.double r :: rest))) : W p l e R (s.setDrawn d0) m args below meth c H locs cells slots Q (F0 m pc ls st0) := by
  have hF := va_free hD hS hA isC hC
  refine va_calldD hd0 hr hS (fun q _ h => hF q h) hF (fun r u t H1 locs1 ht _ hp hB _ hk h3 d1 hd1 => by
    obtain ⟨hP1, hD1⟩ := hB
    rw [ht] at hP1
    obtain ⟨k1, k2⟩ := va_join hP hD isC isR hC hR hn hdis hk hF hP1 hD1
    exact kk r u H1 locs1 d1 hd1 hp k1 k2 h3)
end CRD
theorem me_dec (x : UInt64) : isNaN64 x = true ↔ FP.Core.decode FP.Core.b64 x.toNat = .nan := by
  have hE : FP.Core.fieldE FP.Core.b64 x.toNat = x.toNat / 4503599627370496 % 2048 := rfl
  have hT : FP.Core.fieldT FP.Core.b64 x.toNat = x.toNat % 4503599627370496 := rfl
  have hN : isNaN64 x = true ↔ 9218868437227405312 < x.toNat % 9223372036854775808 := by
    rw [isNaN64_iff, show (0x7fffffffffffffff : Nat) = 2 ^ 63 - 1 from rfl, Nat.and_two_pow_sub_one_eq_mod]
  rw [hN]
  unfold FP.Core.decode
  rw [hE, hT, show FP.Core.b64.exps - 1 = 2047 from rfl]
  by_cases c1 : x.toNat / 4503599627370496 % 2048 = 2047
  · rw [if_pos c1]
    by_cases c2 : x.toNat % 4503599627370496 = 0
    · rw [if_pos c2]
      exact ⟨fun h => by exfalso; omega, fun h => by cases h⟩
    · rw [if_neg c2]
      exact ⟨fun _ => rfl, fun _ => by omega⟩
  · rw [if_neg c1]
    refine ⟨fun h => by exfalso; omega, fun h => ?_⟩
    by_cases c2 : x.toNat / 4503599627370496 % 2048 = 0
    · rw [if_pos c2] at h; cases h
    · rw [if_neg c2] at h; cases h
theorem me_cs (a : Int) : compare a a = Ordering.eq := by simp [compare, compareOfLessAndEq]
theorem me_cmp (x : UInt64) : (isNaN64 x = true ∧ Op.cmpValue (FP.dcmp x x) CmpOp.l ≠ 0) ∨ (isNaN64 x = false ∧ Op.cmpValue (FP.dcmp x x) CmpOp.l = 0) := by
  have hd : FP.dcmp x x = FP.Core.order (FP.Core.decode FP.Core.b64 x.toNat) (FP.Core.decode FP.Core.b64 x.toNat) := rfl
  have hn := me_dec x
  rw [hd]
  generalize FP.Core.decode FP.Core.b64 x.toNat = d at hn ⊢
  have hf : d ≠ .nan → isNaN64 x = false := fun h => by
    cases h1 : isNaN64 x with
    | false => rfl
    | true => exact absurd (hn.mp h1) h
  cases d with
  | nan => exact Or.inl ⟨hn.mpr rfl, by decide⟩
  | inf b =>
    refine Or.inr ⟨hf (fun h => by cases h), ?_⟩
    show Op.cmpValue (some (compare _ _)) CmpOp.l = 0
    rw [me_cs]; rfl
  | fin b k w =>
    refine Or.inr ⟨hf (fun h => by cases h), ?_⟩
    show Op.cmpValue (some (compare _ _)) CmpOp.l = 0
    rw [me_cs]; rfl
theorem me_zero : isNaN64 FP.dconst0 = false := by decide
theorem me_same {S N : Nat} {x y : UInt64} (hx : meP S N x) (hy : meP S N y) : Op.cmpValue (FP.dcmp x y) CmpOp.l = 0 ∨ (Op.cmpValue (FP.dcmp x x) CmpOp.l ≠ 0 ∧ Op.cmpValue (FP.dcmp y y) CmpOp.l ≠ 0) := by
  by_cases c : N = 0
  · left
    rw [hx.1 c, hy.1 c]
    rcases me_cmp FP.dconst0 with h | h
    · rw [me_zero] at h; cases h.1
    · exact h.2
  · have h1 := hx.2 c
    have h2 := hy.2 c
    generalize FP.ddiv (FP.i2d (iI ↑S)) (FP.i2d (iI ↑N)) = w at h1 h2
    simp only [alike64, Bool.or_eq_true, decide_eq_true_eq, Bool.and_eq_true] at h1 h2
    rcases me_cmp x with ⟨a1, a2⟩ | ⟨a1, a2⟩
    · have hq : isNaN64 w = true := by
        rcases h1 with h | h
        · rw [← h]; exact a1
        · exact h.2
      have hyn : isNaN64 y = true := by
        rcases h2 with h | h
        · rw [h]; exact hq
        · exact h.1
      rcases me_cmp y with ⟨b1, b2⟩ | ⟨b1, b2⟩
      · exact Or.inr ⟨a2, b2⟩
      · rw [hyn] at b1; cases b1
    · have e1 : x = w := by
        rcases h1 with h | h
        · exact h
        · rw [a1] at h; cases h.1
      have e2 : y = w := by
        rcases h2 with h | h
        · exact h
        · have h3 := h.2
          rw [← e1, a1] at h3; cases h3
      left
      rw [e2, ← e1]
      exact a2
