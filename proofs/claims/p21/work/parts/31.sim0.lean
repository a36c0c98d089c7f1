/-! the law's own hearths: arrays in a pool, and what they hold -/
def rowE (cI : ClassId) (M : List Nat) (e : va_E) : Prop := ∃ g : Nat → Int32, e = .inl (cI, M.length, .inl g) ∧ ∀ i, i < M.length → g i = iI ↑(M.getD i 0)
theorem row_push {M : List Nat} {g0 g g3 : Nat → Int32} {x : Nat} {v : Int32} (h0 : ∀ i, i < M.length → g0 i = iI ↑(M.getD i 0)) (hg : ∀ j, j < M.length → g j = g0 j) (e : g3 = upd g M.length v) (hv : v = iI ↑x) : ∀ i, i < (M ++ [x]).length → g3 i = iI ↑((M ++ [x]).getD i 0) := by
  intro i hi
  rw [List.length_append] at hi
  have hi : i < M.length + 1 := hi
  rw [e]
  by_cases c : i = M.length
  · subst c
    rw [upd_s, getD_app_r (Nat.le_refl _), Nat.sub_self, hv]
    rfl
  · rw [upd_n _ _ c, getD_app_l (by omega), hg i (by omega), h0 i (by omega)]
def SimK (cI cJ cK : ClassId) (n : Nat) (Hh : Nat → Nat) (mv : Nat → Int32) (rv : Nat → Int) (lo : Nat → Nat) (gk : Nat → Int32) (R : Nat → Nat → List Nat) (lw rk hs em : Nat) (L : List Nat) (f : Nat → va_E) (K ha ea : Nat → Nat) (r : Nat → Nat → Nat) : Prop :=
  (lw ∈ L ∧ K lw = 1 ∧ ∃ g : Nat → Int32, f lw = .inl (cI, 2, .inl g) ∧ ∀ h, h < 2 → g h = iI ↑(lo h)) ∧
  (rk ∈ L ∧ K rk = 2 ∧ ∃ g : Nat → Int32, f rk = .inl (cI, 2, .inl g) ∧ ∀ h, h < 2 → g h = gk h) ∧
  (hs ∈ L ∧ K hs = 3 ∧ ∃ g : Nat → Option Nat, f hs = .inl (cK, 2, .inr (.inr (.inr (.inr g)))) ∧ ∀ h, h < 2 → g h = some (ha h)) ∧
  (em ∈ L ∧ K em = 4 ∧ ∃ g : Nat → Option Nat, f em = .inl (cJ, n, .inr (.inr (.inr (.inr g)))) ∧ ∀ e, e < n → g e = some (ea e)) ∧
  (∀ h, h < 2 → ha h ∈ L ∧ K (ha h) = 5 + h ∧ ∃ g : Nat → Option Nat, f (ha h) = .inl (cJ, 11, .inr (.inr (.inr (.inr g)))) ∧ ∀ b, b < 11 → g b = some (r h b)) ∧
  (∀ h b, h < 2 → b < 11 → r h b ∈ L ∧ K (r h b) = 0 ∧ rowE cI (R h b) (f (r h b))) ∧
  (∀ e, e < n → ea e ∈ L ∧ K (ea e) = 7 + e ∧ ∃ g : Nat → Int32, f (ea e) = .inl (cI, 3, .inl g) ∧ g 0 = iI ↑(Hh e) ∧ g 1 = mv e ∧ g 2 = iI (rv e))
def SimP (cI cJ cK : ClassId) (n : Nat) (Hh : Nat → Nat) (mv : Nat → Int32) (rv : Nat → Int) (lo : Nat → Nat) (gk : Nat → Int32) (R : Nat → Nat → List Nat) (lw rk hs em : Nat) (L : List Nat) (f : Nat → va_E) : Prop := ∃ (K ha ea : Nat → Nat) (r : Nat → Nat → Nat), SimK cI cJ cK n Hh mv rv lo gk R lw rk hs em L f K ha ea r
theorem ne_K {K : Nat → Nat} {a b x y : Nat} (h1 : K a = x) (h2 : K b = y) (h : x ≠ y) : a ≠ b := fun z => h (by rw [← h1, ← h2, z])
section SIMK
variable {cI cJ cK : ClassId} {n : Nat} {Hh Hh2 : Nat → Nat} {mv mv2 : Nat → Int32} {rv rv2 : Nat → Int} {lo : Nat → Nat} {gk : Nat → Int32} {R : Nat → Nat → List Nat} {lw rk hs em : Nat} {L L' : List Nat} {f f' : Nat → va_E} {K ha ea : Nat → Nat} {r : Nat → Nat → Nat}
theorem SimK.P (h : SimK cI cJ cK n Hh mv rv lo gk R lw rk hs em L f K ha ea r) : SimP cI cJ cK n Hh mv rv lo gk R lw rk hs em L f := ⟨K, ha, ea, r, h⟩
theorem SimK.ext (h : SimK cI cJ cK n Hh mv rv lo gk R lw rk hs em L f K ha ea r) (hx : pExt L f L' f') : SimK cI cJ cK n Hh mv rv lo gk R lw rk hs em L' f' (fun a => if a ∈ L then K a else 0) ha ea r := by
  obtain ⟨⟨a1, a2, a3⟩, ⟨b1, b2, b3⟩, ⟨c1, c2, c3⟩, ⟨d1, d2, d3⟩, h5, h6, h7⟩ := h
  refine ⟨⟨(hx _ a1).1, (if_pos a1).trans a2, by rw [(hx _ a1).2]; exact a3⟩, ⟨(hx _ b1).1, (if_pos b1).trans b2, by rw [(hx _ b1).2]; exact b3⟩, ⟨(hx _ c1).1, (if_pos c1).trans c2, by rw [(hx _ c1).2]; exact c3⟩, ⟨(hx _ d1).1, (if_pos d1).trans d2, by rw [(hx _ d1).2]; exact d3⟩, fun k hk => ?_, fun k b hk hb => ?_, fun e he => ?_⟩
  · obtain ⟨e1, e2, e3⟩ := h5 k hk
    exact ⟨(hx _ e1).1, (if_pos e1).trans e2, by rw [(hx _ e1).2]; exact e3⟩
  · obtain ⟨e1, e2, e3⟩ := h6 k b hk hb
    exact ⟨(hx _ e1).1, (if_pos e1).trans e2, by rw [(hx _ e1).2]; exact e3⟩
  · obtain ⟨e1, e2, e3⟩ := h7 e he
    exact ⟨(hx _ e1).1, (if_pos e1).trans e2, by rw [(hx _ e1).2]; exact e3⟩
theorem SimP.ext (h : SimP cI cJ cK n Hh mv rv lo gk R lw rk hs em L f) (hx : pExt L f L' f') : SimP cI cJ cK n Hh mv rv lo gk R lw rk hs em L' f' := by
  obtain ⟨K, ha, ea, r, h⟩ := h
  exact (h.ext hx).P
theorem SimK.row (h : SimK cI cJ cK n Hh mv rv lo gk R lw rk hs em L f K ha ea r) {q h9 b9 : Nat} {M : List Nat} {g g2 : Nat → Option Nat} {ent : va_E} (hq : q ∈ L) (hKq : K q = 0) (hr : rowE cI M (f q)) (hh : h9 < 2) (hb9 : b9 < 11) (hg : f (ha h9) = .inl (cJ, 11, .inr (.inr (.inr (.inr g))))) (e2 : g2 = va_up g b9 (some q)) (hent : ent = .inl (cJ, 11, .inr (.inr (.inr (.inr g2))))) : SimK cI cJ cK n Hh mv rv lo gk (va_up R h9 (va_up (R h9) b9 M)) lw rk hs em L (va_up f (ha h9) ent) K ha ea (va_up r h9 (va_up (r h9) b9 q)) := by
  obtain ⟨⟨a1, a2, a3⟩, ⟨b1, b2, b3⟩, ⟨c1, c2, c3⟩, ⟨d1, d2, d3⟩, h5, h6, h7⟩ := h
  have hk0 : K (ha h9) = 5 + h9 := (h5 h9 hh).2.1
  have keep : ∀ a x, K a = x → x ≠ (5 + h9) → va_up f (ha h9) ent a = f a := fun a x hx hne => va_up_ne _ _ (ne_K hx hk0 hne)
  refine ⟨⟨a1, a2, by rw [keep _ _ a2 (by omega)]; exact a3⟩, ⟨b1, b2, by rw [keep _ _ b2 (by omega)]; exact b3⟩, ⟨c1, c2, by rw [keep _ _ c2 (by omega)]; exact c3⟩, ⟨d1, d2, by rw [keep _ _ d2 (by omega)]; exact d3⟩, fun k hk => ?_, fun k b hk hb => ?_, fun e he => ?_⟩
  · obtain ⟨e1, e2', g0, e3, e4⟩ := h5 k hk
    by_cases c : k = h9
    · subst c
      rw [va_up_self, va_up_self]
      refine ⟨e1, e2', g2, hent, fun b hb => ?_⟩
      have eg : g0 = g := by
        have := e3.symm.trans hg
        cases this
        rfl
      rw [e2]
      by_cases d : b = b9
      · subst d
        rw [va_up_self, va_up_self]
      · rw [va_up_ne _ _ d, va_up_ne _ _ d, ← eg]
        exact e4 b hb
    · rw [va_up_ne _ _ c]
      exact ⟨e1, e2', by rw [keep _ _ e2' (by omega)]; exact ⟨g0, e3, e4⟩⟩
  · by_cases c : k = h9
    · subst c
      rw [va_up_self, va_up_self]
      by_cases d : b = b9
      · subst d
        rw [va_up_self, va_up_self]
        exact ⟨hq, hKq, by rw [keep _ _ hKq (by omega)]; exact hr⟩
      · rw [va_up_ne _ _ d, va_up_ne _ _ d]
        obtain ⟨e1, e2', e3⟩ := h6 k b hk hb
        exact ⟨e1, e2', by rw [keep _ _ e2' (by omega)]; exact e3⟩
    · rw [va_up_ne _ _ c, va_up_ne _ _ c]
      obtain ⟨e1, e2', e3⟩ := h6 k b hk hb
      exact ⟨e1, e2', by rw [keep _ _ e2' (by omega)]; exact e3⟩
  · obtain ⟨e1, e2, e3⟩ := h7 e he
    exact ⟨e1, e2, by rw [keep _ _ e2 (by omega)]; exact e3⟩
theorem SimK.emb (h : SimK cI cJ cK n Hh mv rv lo gk R lw rk hs em L f K ha ea r) {e9 : Nat} {g2 : Nat → Int32} {ent : va_E} (he9 : e9 < n) (hent : ent = .inl (cI, 3, .inl g2)) (h0 : g2 0 = iI ↑(Hh2 e9)) (h1 : g2 1 = mv2 e9) (h2 : g2 2 = iI (rv2 e9)) (hH : ∀ e, e ≠ e9 → Hh2 e = Hh e ∧ mv2 e = mv e ∧ rv2 e = rv e) : SimK cI cJ cK n Hh2 mv2 rv2 lo gk R lw rk hs em L (va_up f (ea e9) ent) K ha ea r := by
  obtain ⟨⟨a1, a2, a3⟩, ⟨b1, b2, b3⟩, ⟨c1, c2, c3⟩, ⟨d1, d2, d3⟩, h5, h6, h7⟩ := h
  have hk0 : K (ea e9) = 7 + e9 := (h7 e9 he9).2.1
  have keep : ∀ a x, K a = x → x ≠ (7 + e9) → va_up f (ea e9) ent a = f a := fun a x hx hne => va_up_ne _ _ (ne_K hx hk0 hne)
  refine ⟨⟨a1, a2, by rw [keep _ _ a2 (by omega)]; exact a3⟩, ⟨b1, b2, by rw [keep _ _ b2 (by omega)]; exact b3⟩, ⟨c1, c2, by rw [keep _ _ c2 (by omega)]; exact c3⟩, ⟨d1, d2, by rw [keep _ _ d2 (by omega)]; exact d3⟩, fun k hk => ?_, fun k b hk hb => ?_, fun e he => ?_⟩
  · obtain ⟨e1, e2, e3⟩ := h5 k hk
    exact ⟨e1, e2, by rw [keep _ _ e2 (by omega)]; exact e3⟩
  · obtain ⟨e1, e2, e3⟩ := h6 k b hk hb
    exact ⟨e1, e2, by rw [keep _ _ e2 (by omega)]; exact e3⟩
  · obtain ⟨e1, e2, g0, e3, e4, e5, e6⟩ := h7 e he
    by_cases c : e = e9
    · subst c
      exact ⟨e1, e2, g2, by rw [va_up_self]; exact hent, h0, h1, h2⟩
    · obtain ⟨q1, q2, q3⟩ := hH e c
      exact ⟨e1, e2, g0, by rw [keep _ _ e2 (by omega)]; exact e3, by rw [q1]; exact e4, by rw [q2]; exact e5, by rw [q3]; exact e6⟩
theorem SimK.low (h : SimK cI cJ cK n Hh mv rv lo gk R lw rk hs em L f K ha ea r) {h9 t : Nat} {g g2 : Nat → Int32} {ent : va_E} (hg : f lw = .inl (cI, 2, .inl g)) (e2 : g2 = upd g h9 (iI ↑t)) (hent : ent = .inl (cI, 2, .inl g2)) : SimK cI cJ cK n Hh mv rv (va_up lo h9 t) gk R lw rk hs em L (va_up f lw ent) K ha ea r := by
  obtain ⟨⟨a1, a2, a3⟩, ⟨b1, b2, b3⟩, ⟨c1, c2, c3⟩, ⟨d1, d2, d3⟩, h5, h6, h7⟩ := h
  have hk0 : K lw = 1 := a2
  have keep : ∀ a x, K a = x → x ≠ 1 → va_up f lw ent a = f a := fun a x hx hne => va_up_ne _ _ (ne_K hx hk0 hne)
  refine ⟨⟨a1, a2, g2, by rw [va_up_self]; exact hent, by
    intro k hk
    obtain ⟨g0, q1, q2⟩ := a3
    have eg : g0 = g := by
      have := q1.symm.trans hg
      cases this
      rfl
    rw [e2]
    by_cases c : k = h9
    · subst c
      rw [upd_s, va_up_self]
    · rw [upd_n _ _ c, va_up_ne _ _ c, ← eg]
      exact q2 k hk⟩, ⟨b1, b2, by rw [keep _ _ b2 (by omega)]; exact b3⟩, ⟨c1, c2, by rw [keep _ _ c2 (by omega)]; exact c3⟩, ⟨d1, d2, by rw [keep _ _ d2 (by omega)]; exact d3⟩, fun k hk => ?_, fun k b hk hb => ?_, fun e he => ?_⟩
  · obtain ⟨e1, e2, e3⟩ := h5 k hk
    exact ⟨e1, e2, by rw [keep _ _ e2 (by omega)]; exact e3⟩
  · obtain ⟨e1, e2, e3⟩ := h6 k b hk hb
    exact ⟨e1, e2, by rw [keep _ _ e2 (by omega)]; exact e3⟩
  · obtain ⟨e1, e2, e3⟩ := h7 e he
    exact ⟨e1, e2, by rw [keep _ _ e2 (by omega)]; exact e3⟩
theorem SimK.gks (h : SimK cI cJ cK n Hh mv rv lo gk R lw rk hs em L f K ha ea r) {h9 : Nat} {g g2 : Nat → Int32} {v : Int32} {ent : va_E} (hg : f rk = .inl (cI, 2, .inl g)) (e2 : g2 = upd g h9 v) (hent : ent = .inl (cI, 2, .inl g2)) : SimK cI cJ cK n Hh mv rv lo (upd gk h9 v) R lw rk hs em L (va_up f rk ent) K ha ea r := by
  obtain ⟨⟨a1, a2, a3⟩, ⟨b1, b2, b3⟩, ⟨c1, c2, c3⟩, ⟨d1, d2, d3⟩, h5, h6, h7⟩ := h
  have hk0 : K rk = 2 := b2
  have keep : ∀ a x, K a = x → x ≠ 2 → va_up f rk ent a = f a := fun a x hx hne => va_up_ne _ _ (ne_K hx hk0 hne)
  refine ⟨⟨a1, a2, by rw [keep _ _ a2 (by omega)]; exact a3⟩, ⟨b1, b2, g2, by rw [va_up_self]; exact hent, by
    intro k hk
    obtain ⟨g0, q1, q2⟩ := b3
    have eg : g0 = g := by
      have := q1.symm.trans hg
      cases this
      rfl
    rw [e2]
    by_cases c : k = h9
    · subst c
      rw [upd_s, upd_s]
    · rw [upd_n _ _ c, upd_n _ _ c, ← eg]
      exact q2 k hk⟩, ⟨c1, c2, by rw [keep _ _ c2 (by omega)]; exact c3⟩, ⟨d1, d2, by rw [keep _ _ d2 (by omega)]; exact d3⟩, fun k hk => ?_, fun k b hk hb => ?_, fun e he => ?_⟩
  · obtain ⟨e1, e2, e3⟩ := h5 k hk
    exact ⟨e1, e2, by rw [keep _ _ e2 (by omega)]; exact e3⟩
  · obtain ⟨e1, e2, e3⟩ := h6 k b hk hb
    exact ⟨e1, e2, by rw [keep _ _ e2 (by omega)]; exact e3⟩
  · obtain ⟨e1, e2, e3⟩ := h7 e he
    exact ⟨e1, e2, by rw [keep _ _ e2 (by omega)]; exact e3⟩
theorem SimK.hea (h : SimK cI cJ cK n Hh mv rv lo gk R lw rk hs em L f K ha ea r) {q h9 : Nat} {r9 : Nat → Nat} {g g2 g9 : Nat → Option Nat} (hx : pExt L f L' f') (hq : q ∈ L') (hq' : q ∉ L) (hfq : f' q = .inl (cJ, 11, .inr (.inr (.inr (.inr g9))))) (hr9 : ∀ i, i < 11 → g9 i = some (r9 i) ∧ r9 i ∈ L' ∧ r9 i ∉ L ∧ r9 i ≠ q ∧ ∃ g0 : Nat → Int32, f' (r9 i) = .inl (cI, 0, .inl g0)) (hh : h9 < 2) (hg : f hs = .inl (cK, 2, .inr (.inr (.inr (.inr g))))) (e2 : g2 = va_up g h9 (some q)) :
    SimK cI cJ cK n Hh mv rv lo gk (va_up R h9 (fun _ => [])) lw rk hs em L' (va_up f' hs (.inl (cK, 2, .inr (.inr (.inr (.inr g2)))))) (fun a => if a ∈ L then (if a = ha h9 then 0 else K a) else if a = q then 5 + h9 else 0) (va_up ha h9 q) ea (va_up r h9 r9) := by
  obtain ⟨⟨a1, a2, a3⟩, ⟨b1, b2, b3⟩, ⟨c1, c2, c3⟩, ⟨d1, d2, d3⟩, h5, h6, h7⟩ := h
  have hkh : K (ha h9) = 5 + h9 := (h5 h9 hh).2.1
  have keep : ∀ a x, a ∈ L → K a = x → x ≠ 3 → va_up f' hs (.inl (cK, 2, .inr (.inr (.inr (.inr g2))))) a = f a := fun a x ha9 hx9 hne => (va_up_ne _ _ (ne_K hx9 c2 hne)).trans (hx a ha9).2
  have kin : ∀ a x, a ∈ L → K a = x → x ≠ 5 + h9 → (if a ∈ L then (if a = ha h9 then 0 else K a) else if a = q then 5 + h9 else 0) = x := fun a x ha9 hx9 hne => by rw [if_pos ha9, if_neg (ne_K hx9 hkh hne)]; exact hx9
  have new : ∀ a, a ∉ L → va_up f' hs (.inl (cK, 2, .inr (.inr (.inr (.inr g2))))) a = f' a := fun a ha9 => va_up_ne _ _ (fun z => ha9 (by rw [z]; exact c1))
  refine ⟨⟨(hx _ a1).1, kin _ _ a1 a2 (by omega), by rw [keep _ _ a1 a2 (by omega)]; exact a3⟩, ⟨(hx _ b1).1, kin _ _ b1 b2 (by omega), by rw [keep _ _ b1 b2 (by omega)]; exact b3⟩, ⟨(hx _ c1).1, kin _ _ c1 c2 (by omega), g2, va_up_self _ _ _, fun k hk => ?_⟩, ⟨(hx _ d1).1, kin _ _ d1 d2 (by omega), by rw [keep _ _ d1 d2 (by omega)]; exact d3⟩, fun k hk => ?_, fun k b hk hb => ?_, fun e he => ?_⟩
  · obtain ⟨g0, q1, q2⟩ := c3
    have eg : g0 = g := by
      have := q1.symm.trans hg
      cases this
      rfl
    rw [e2]
    by_cases c : k = h9
    · subst c
      rw [va_up_self, va_up_self]
    · rw [va_up_ne _ _ c, va_up_ne _ _ c, ← eg]
      exact q2 k hk
  · by_cases c : k = h9
    · subst c
      rw [va_up_self, va_up_self]
      refine ⟨hq, (if_neg hq').trans (if_pos rfl), g9, by rw [new _ hq']; exact hfq, fun b hb => (hr9 b hb).1⟩
    · rw [va_up_ne _ _ c, va_up_ne _ _ c]
      obtain ⟨e1, e2', e3⟩ := h5 k hk
      exact ⟨(hx _ e1).1, kin _ _ e1 e2' (by omega), by rw [keep _ _ e1 e2' (by omega)]; exact e3⟩
  · by_cases c : k = h9
    · subst c
      rw [va_up_self, va_up_self]
      obtain ⟨-, w1, w2, w3, g0, w4⟩ := hr9 b hb
      refine ⟨w1, (if_neg w2).trans (if_neg w3), g0, by rw [new _ w2]; exact w4, fun i hi => absurd hi (Nat.not_lt_zero i)⟩
    · rw [va_up_ne _ _ c, va_up_ne _ _ c]
      obtain ⟨e1, e2', e3⟩ := h6 k b hk hb
      exact ⟨(hx _ e1).1, kin _ _ e1 e2' (by omega), by rw [keep _ _ e1 e2' (by omega)]; exact e3⟩
  · obtain ⟨e1, e2', e3⟩ := h7 e he
    exact ⟨(hx _ e1).1, kin _ _ e1 e2' (by omega), by rw [keep _ _ e1 e2' (by omega)]; exact e3⟩
theorem SimK.lit (h : SimK cI cJ cK n Hh mv rv lo gk R lw rk hs em L f K ha ea r) {q1 q2 : Nat} {g9 : Nat → Option Nat} {g3 : Nat → Int32} {x : Nat} (hx : pExt L f L' f') (hq1 : q1 ∈ L') (hn1 : q1 ∉ L) (hq2 : q2 ∈ L') (hn2 : q2 ∉ L) (hne : q2 ≠ q1) (hf1 : f' q1 = .inl (cJ, n + 1, .inr (.inr (.inr (.inr g9))))) (hg9 : (∀ e, e < n → g9 e = some (ea e)) ∧ g9 n = some q2) (hf2 : f' q2 = .inl (cI, 3, .inl g3)) (h30 : g3 0 = iI ↑x) (h31 : g3 1 = 0) (h32 : g3 2 = iI 0) (hH : Hh2 = va_up Hh n x) (hmv : mv n = 0) (hrv : rv n = 0) :
    SimP cI cJ cK (n + 1) Hh2 mv rv lo gk R lw rk hs q1 L' f' := by
  obtain ⟨⟨a1, a2, a3⟩, ⟨b1, b2, b3⟩, ⟨c1, c2, c3⟩, ⟨d1, d2, d3⟩, h5, h6, h7⟩ := h
  have keep : ∀ a, a ∈ L → f' a = f a := fun a ha9 => (hx a ha9).2
  have kin : ∀ a x, a ∈ L → K a = x → x ≠ 4 → (if a ∈ L then (if a = em then 0 else K a) else if a = q1 then 4 else if a = q2 then 7 + n else 0) = x := fun a x ha9 hx9 hne => by rw [if_pos ha9, if_neg (ne_K hx9 d2 hne)]; exact hx9
  refine ⟨fun a => if a ∈ L then (if a = em then 0 else K a) else if a = q1 then 4 else if a = q2 then 7 + n else 0, ha, va_up ea n q2, r, ⟨(hx _ a1).1, kin _ _ a1 a2 (by omega), by rw [keep _ a1]; exact a3⟩, ⟨(hx _ b1).1, kin _ _ b1 b2 (by omega), by rw [keep _ b1]; exact b3⟩, ⟨(hx _ c1).1, kin _ _ c1 c2 (by omega), by rw [keep _ c1]; exact c3⟩, ⟨hq1, (if_neg hn1).trans (if_pos rfl), g9, hf1, fun e he => ?_⟩, fun k hk => ?_, fun k b hk hb => ?_, fun e he => ?_⟩
  · by_cases c : e = n
    · subst c
      rw [va_up_self]; exact hg9.2
    · rw [va_up_ne _ _ c]; exact hg9.1 e (by omega)
  · obtain ⟨e1, e2', e3⟩ := h5 k hk
    exact ⟨(hx _ e1).1, kin _ _ e1 e2' (by omega), by rw [keep _ e1]; exact e3⟩
  · obtain ⟨e1, e2', e3⟩ := h6 k b hk hb
    exact ⟨(hx _ e1).1, kin _ _ e1 e2' (by omega), by rw [keep _ e1]; exact e3⟩
  · by_cases c : e = n
    · subst c
      rw [va_up_self, hH, va_up_self, hmv, hrv]
      exact ⟨hq2, (if_neg hn2).trans ((if_neg hne).trans (if_pos rfl)), g3, hf2, h30, h31, h32⟩
    · rw [va_up_ne _ _ c, hH, va_up_ne _ _ c]
      obtain ⟨e1, e2', e3⟩ := h7 e (by omega)
      exact ⟨(hx _ e1).1, kin _ _ e1 e2' (by omega), by rw [keep _ e1]; exact e3⟩
end SIMK
