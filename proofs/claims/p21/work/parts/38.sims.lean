theorem up_next {g g2 : Nat → Option Nat} {ea : Nat → Nat} {i : Nat} (h : ∀ j, j < i → g j = some (ea j)) (e : g2 = va_up g i (some (ea i))) : ∀ j, j < i + 1 → g2 j = some (ea j) := by
  intro j hj
  rw [e]
  by_cases c : j = i
  · subst c
    rw [va_up_self]
  · rw [va_up_ne _ _ c]
    exact h j (by omega)
theorem SimQ_hea {cI cJ cK : ClassId} {n : Nat} {Hh : Nat → Nat} {mv : Nat → Int32} {rv : Nat → Int} {lo : Nat → Nat} {gk : Nat → Int32} {R : Nat → Nat → List Nat} {lw rk hs em : Nat} {L L1 L' : List Nat} {f f1 f' : Nat → va_E} {K ha ea : Nat → Nat} {r : Nat → Nat → Nat} {w0 : Nat} {M : List Nat} (qS : SimK cI cJ cK n Hh mv rv lo gk R lw rk hs em L f K ha ea r) (hx0 : pExt L f L1 f1) (hw : w0 ∈ L1) (hwn : w0 ∉ L) (hM : rowE cI M (f1 w0)) {q h9 : Nat} {r9 : Nat → Nat} {g g2 g9 : Nat → Option Nat} (hx : pExt L1 f1 L' f') (hq : q ∈ L') (hq' : q ∉ L1) (hfq : f' q = .inl (cJ, 11, .inr (.inr (.inr (.inr g9))))) (hr9 : ∀ i, i < 11 → g9 i = some (r9 i) ∧ r9 i ∈ L' ∧ r9 i ∉ L1 ∧ r9 i ≠ q ∧ ∃ g0 : Nat → Int32, f' (r9 i) = .inl (cI, 0, .inl g0)) (hh : h9 < 2) (hg : f hs = .inl (cK, 2, .inr (.inr (.inr (.inr g))))) (e2 : g2 = va_up g h9 (some q)) :
    SimQ cI cJ cK n Hh mv rv lo gk (va_up R h9 (fun _ => [])) lw rk hs em L' (va_up f' hs (.inl (cK, 2, .inr (.inr (.inr (.inr g2)))))) w0 M := by
  have hs1 := qS.2.2.1.1
  have hne : w0 ≠ hs := fun z => hwn (by rw [z]; exact hs1)
  refine ⟨_, _, _, _, SimK.hea (qS.ext hx0) hx hq hq' hfq hr9 hh ((hx0 _ hs1).2.trans hg) e2, (hx _ hw).1, ?_, ?_⟩
  · show (if w0 ∈ L1 then (if w0 = ha h9 then 0 else (if w0 ∈ L then K w0 else 0)) else _) = 0
    rw [if_pos hw, if_neg hwn]
    exact ite_self 0
  · rw [va_up_ne _ _ hne, (hx _ hw).2]
    exact hM
theorem min_hd {Hh : Nat → Nat} {B : List Nat} (h : 0 < B.length) : min (Hh (B.getD 0 0)) (minL Hh B) = minL Hh B := Nat.min_eq_right (minL_le (getD_in h))
