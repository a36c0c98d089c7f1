/-! the law's own hearths: one row kept aside; rows that come one after the other -/
def SimQ (cI cJ cK : ClassId) (n : Nat) (Hh : Nat → Nat) (mv : Nat → Int32) (rv : Nat → Int) (lo : Nat → Nat) (gk : Nat → Int32) (R : Nat → Nat → List Nat) (lw rk hs em : Nat) (L : List Nat) (f : Nat → va_E) (w0 : Nat) (M : List Nat) : Prop := ∃ (K ha ea : Nat → Nat) (r : Nat → Nat → Nat), SimK cI cJ cK n Hh mv rv lo gk R lw rk hs em L f K ha ea r ∧ w0 ∈ L ∧ K w0 = 0 ∧ rowE cI M (f w0)
def putR (κ : Nat → Nat) (h : Nat) (R : Nat → Nat → List Nat) (x : Nat) : Nat → Nat → List Nat := va_up R h (va_up (R h) (κ x) (R h (κ x) ++ [x]))
def mvR (κ : Nat → Nat) (h : Nat) (R : Nat → Nat → List Nat) (B : List Nat) : Nat → Nat → List Nat := B.foldl (putR κ h) R
theorem mvR_take (κ : Nat → Nat) (h : Nat) (R : Nat → Nat → List Nat) {B : List Nat} {i : Nat} (hi : i < B.length) : mvR κ h R (B.take (i + 1)) = putR κ h (mvR κ h R (B.take i)) (B.getD i 0) := by
  unfold mvR
  rw [take_s1 hi, List.foldl_append]
  rfl
theorem putR_len (κ : Nat → Nat) (h : Nat) (R : Nat → Nat → List Nat) (x b : Nat) : (putR κ h R x h b).length ≤ (R h b).length + 1 := by
  unfold putR
  rw [va_up_self]
  by_cases c : b = κ x
  · subst c
    rw [va_up_self, List.length_append]
    exact Nat.le_refl _
  · rw [va_up_ne _ _ c]
    omega
theorem mvR_len (κ : Nat → Nat) (h : Nat) (R : Nat → Nat → List Nat) (B : List Nat) : ∀ i, i ≤ B.length → ∀ b, (mvR κ h R (B.take i) h b).length ≤ (R h b).length + i
  | 0, _, b => Nat.le_refl _
  | i + 1, hi, b => by
    rw [mvR_take _ _ _ (show i < B.length by omega)]
    have h1 := putR_len κ h (mvR κ h R (B.take i)) (B.getD i 0) b
    have h2 := mvR_len κ h R B i (by omega) b
    omega
def catR (T : Nat → List Nat) : Nat → List Nat
  | 0 => []
  | b + 1 => catR T b ++ T b
theorem catR_s (T : Nat → List Nat) (b : Nat) : (catR T (b + 1)).length = (catR T b).length + (T b).length := List.length_append
theorem catR_mono (T : Nat → List Nat) {a b : Nat} (h : a ≤ b) : (catR T a).length ≤ (catR T b).length := by
  induction b with
  | zero => rw [Nat.le_zero.mp h]; exact Nat.le_refl _
  | succ b ih =>
    rcases Nat.lt_or_ge a (b + 1) with q | q
    · have := ih (by omega)
      rw [catR_s]
      omega
    · rw [show a = b + 1 by omega]; exact Nat.le_refl _
section SIMQ
variable {cI cJ cK : ClassId} {n : Nat} {Hh : Nat → Nat} {mv : Nat → Int32} {rv : Nat → Int} {lo : Nat → Nat} {gk : Nat → Int32} {R : Nat → Nat → List Nat} {lw rk hs em : Nat} {L L' : List Nat} {f f' : Nat → va_E} {K ha ea : Nat → Nat} {r : Nat → Nat → Nat} {w0 : Nat} {M : List Nat}
theorem SimQ.P (h : SimQ cI cJ cK n Hh mv rv lo gk R lw rk hs em L f w0 M) : SimP cI cJ cK n Hh mv rv lo gk R lw rk hs em L f := by
  obtain ⟨K, ha, ea, r, h, -⟩ := h
  exact ⟨K, ha, ea, r, h⟩
theorem SimQ.of (h : SimP cI cJ cK n Hh mv rv lo gk R lw rk hs em L f) : ∃ w0, SimQ cI cJ cK n Hh mv rv lo gk R lw rk hs em L f w0 (R 0 0) := by
  obtain ⟨K, ha, ea, r, h⟩ := h
  obtain ⟨q1, q2, q3⟩ := h.2.2.2.2.2.1 0 0 (by omega) (by omega)
  exact ⟨r 0 0, K, ha, ea, r, h, q1, q2, q3⟩
theorem SimQ_put (qS : SimK cI cJ cK n Hh mv rv lo gk R lw rk hs em L f K ha ea r) (qw : w0 ∈ L) (qk : K w0 = 0) (qM : rowE cI M (f w0)) {q h9 b9 : Nat} {M' : List Nat} {g g2 : Nat → Option Nat} {ent : va_E} (hx : pExt L f L' f') (hq : q ∈ L') (hqn : q ∉ L) (hr : rowE cI M' (f' q)) (hh : h9 < 2) (hb9 : b9 < 11) (hg : f (ha h9) = .inl (cJ, 11, .inr (.inr (.inr (.inr g))))) (e2 : g2 = va_up g b9 (some q)) (hent : ent = .inl (cJ, 11, .inr (.inr (.inr (.inr g2))))) :
    SimQ cI cJ cK n Hh mv rv lo gk (va_up R h9 (va_up (R h9) b9 M')) lw rk hs em L' (va_up f' (ha h9) ent) w0 M := by
  obtain ⟨ha1, ha2, -⟩ := qS.2.2.2.2.1 h9 hh
  have hne : w0 ≠ ha h9 := ne_K qk ha2 (by omega)
  refine ⟨_, ha, ea, _, SimK.row (qS.ext hx) hq (if_neg hqn) hr hh hb9 ((hx _ ha1).2.trans hg) e2 hent, (hx _ qw).1, (if_pos qw).trans qk, ?_⟩
  rw [va_up_ne _ _ hne, (hx _ qw).2]
  exact qM
theorem SimQ_bump (qS : SimK cI cJ cK n Hh mv rv lo gk R lw rk hs em L f K ha ea r) (qw : w0 ∈ L) (qk : K w0 = 0) (qM : rowE cI M (f w0)) {x : Nat} {g g2 : Nat → Int32} {v : Int32} (hx : x < n) (hg : f (ea x) = .inl (cI, 3, .inl g)) (e2 : g2 = upd g 1 v) (hv : v = g 1 + 1) :
    SimQ cI cJ cK n Hh (upd mv x (mv x + 1)) rv lo gk R lw rk hs em L (va_up f (ea x) (.inl (cI, 3, .inl g2))) w0 M := by
  obtain ⟨e1, e9, g0, e3, e4, e5, e6⟩ := qS.2.2.2.2.2.2 x hx
  have eg : g0 = g := by
    have := e3.symm.trans hg
    cases this
    rfl
  subst eg
  have hne : w0 ≠ ea x := ne_K qk e9 (by omega)
  refine ⟨K, ha, ea, r, SimK.emb qS hx rfl (by rw [e2, upd_n _ _ (by omega)]; exact e4) (by rw [e2, upd_s, upd_s, hv, e5]) (by rw [e2, upd_n _ _ (by omega)]; exact e6) (fun e he => ⟨rfl, upd_n _ _ he, rfl⟩), qw, qk, ?_⟩
  rw [va_up_ne _ _ hne]
  exact qM
theorem SimQ_low (qS : SimK cI cJ cK n Hh mv rv lo gk R lw rk hs em L f K ha ea r) (qw : w0 ∈ L) (qk : K w0 = 0) (qM : rowE cI M (f w0)) {h9 t : Nat} {g g2 : Nat → Int32} {v : Int32} (hg : f lw = .inl (cI, 2, .inl g)) (e2 : g2 = upd g h9 v) (hv : v = iI ↑t) :
    SimQ cI cJ cK n Hh mv rv (va_up lo h9 t) gk R lw rk hs em L (va_up f lw (.inl (cI, 2, .inl g2))) w0 M := by
  have hne : w0 ≠ lw := ne_K qk qS.1.2.1 (by omega)
  refine ⟨K, ha, ea, r, SimK.low qS hg (by rw [e2, hv]) rfl, qw, qk, ?_⟩
  rw [va_up_ne _ _ hne]
  exact qM
end SIMQ
