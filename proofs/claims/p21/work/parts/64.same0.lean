/-! what the law's own look at the whole says -/
def fsP (c : Nat → Nat) (b : Nat) (z : Int) : Prop := (z = -1 ∧ ∀ j, j < b → c j = 0) ∨ ∃ k : Nat, k < b ∧ z = (↑k : Int) ∧ 0 < c k ∧ ∀ j, j < k → c j = 0
def lsP (c : Nat → Nat) (b : Nat) (z : Int) : Prop := (z = -1 ∧ ∀ j, j < b → c j = 0) ∨ ∃ k : Nat, k < b ∧ z = (↑k : Int) ∧ 0 < c k ∧ ∀ j, k < j → j < b → c j = 0
section FSP
variable {c : Nat → Nat} {b : Nat} {z : Int}
theorem fsP_0 : fsP c 0 (-1) := Or.inl ⟨rfl, fun j hj => absurd hj (Nat.not_lt_zero j)⟩
theorem lsP_0 : lsP c 0 (-1) := Or.inl ⟨rfl, fun j hj => absurd hj (Nat.not_lt_zero j)⟩
theorem fsP_e (h : fsP c b z) (h0 : c b = 0) : fsP c (b + 1) z := by
  rcases h with ⟨h1, h2⟩ | ⟨k, h1, h2, h3, h4⟩
  · refine Or.inl ⟨h1, fun j hj => ?_⟩
    rcases Nat.lt_or_ge j b with q | q
    · exact h2 j q
    · rw [show j = b by omega]
      exact h0
  · exact Or.inr ⟨k, by omega, h2, h3, h4⟩
theorem fsP_n (h : fsP c b z) (h0 : 0 < c b) (hz : z < 0) : fsP c (b + 1) ↑b := by
  rcases h with ⟨h1, h2⟩ | ⟨k, h1, h2, h3, h4⟩
  · exact Or.inr ⟨b, by omega, rfl, h0, h2⟩
  · omega
theorem fsP_k (h : fsP c b z) (hz : 0 ≤ z) : fsP c (b + 1) z := by
  rcases h with ⟨h1, h2⟩ | ⟨k, h1, h2, h3, h4⟩
  · omega
  · exact Or.inr ⟨k, by omega, h2, h3, h4⟩
theorem fsP_rg (h : fsP c b z) (hb : b ≤ 11) : -1 ≤ z ∧ z < 11 := by
  rcases h with ⟨h1, h2⟩ | ⟨k, h1, h2, h3, h4⟩ <;> omega
theorem lsP_e (h : lsP c b z) (h0 : c b = 0) : lsP c (b + 1) z := by
  rcases h with ⟨h1, h2⟩ | ⟨k, h1, h2, h3, h4⟩
  · refine Or.inl ⟨h1, fun j hj => ?_⟩
    rcases Nat.lt_or_ge j b with q | q
    · exact h2 j q
    · rw [show j = b by omega]
      exact h0
  · refine Or.inr ⟨k, by omega, h2, h3, fun j hj hj2 => ?_⟩
    rcases Nat.lt_or_ge j b with q | q
    · exact h4 j hj q
    · rw [show j = b by omega]
      exact h0
theorem lsP_n (h0 : 0 < c b) : lsP c (b + 1) ↑b := Or.inr ⟨b, by omega, rfl, h0, fun j hj hj2 => by omega⟩
theorem lsP_rg (h : lsP c b z) (hb : b ≤ 11) : -1 ≤ z ∧ z < 11 := by
  rcases h with ⟨h1, h2⟩ | ⟨k, h1, h2, h3, h4⟩ <;> omega
end FSP
theorem isFst_un {c : Nat → Nat} {x y : Int} (h : isFst c x) (h2 : isFst c y) : x = y := by
  rcases h2 with ⟨g1, g2⟩ | ⟨b, g1, g2, g3, g4⟩
  · rw [g1]
    exact isFst_no (i := 11) h (Nat.le_refl _) g2
  · rw [g2]
    exact isFst_at h g1 g4 g3
theorem isLst_un {c : Nat → Nat} {x y : Int} (h : isLst c x) (h2 : isLst c y) : x = y := by
  rcases h2 with ⟨g1, g2⟩ | ⟨b, g1, g2, g3, g4⟩
  · rw [g1]
    exact isLst_no h g2
  · rw [g2]
    exact isLst_at h g1 g4 g3
section SAME
variable {Z : va_AS} {h : Nat}
theorem rw_cnt (Z : va_AS) (h : Nat) : (fun b => (rwA Z h b).length) = cnt (ka (aL Z h) (aH Z)) (aR Z h) := funext fun b => bkL_len _ _ b
theorem fst_eq (hI : AI Z) (hh : h < 2) {b : Nat} (hb : b = 11) {z : Int} (hz : fsP (fun b => (rwA Z h b).length) b z) : z = fstL (aL Z h) (aH Z) (aR Z h) := by
  subst hb
  rw [rw_cnt] at hz
  obtain ⟨-, j2, j3⟩ := hI.2.2.1 h hh
  exact isFst_un hz (fst_of j2 j3)
theorem lst_eq (hI : AI Z) (hh : h < 2) {b : Nat} (hb : b = 11) {z : Int} (hz : lsP (fun b => (rwA Z h b).length) b z) : z = lstL (aL Z h) (aH Z) (aR Z h) := by
  subst hb
  rw [rw_cnt] at hz
  obtain ⟨-, j2, j3⟩ := hI.2.2.1 h hh
  exact isLst_un hz (lst_of j2 j3)
def sH (Z : va_AS) : Nat → Nat
  | 0 => 0
  | h + 1 => sH Z h + sumL (aH Z) (aR Z h)
def lH (Z : va_AS) : Nat → Nat
  | 0 => 0
  | h + 1 => lH Z h + (aR Z h).length
theorem wh_at (hI : AI Z) {e : Nat} (hn : e < aN Z) {g : Nat → Int32} (h9 : (∃ h b, h < 2 ∧ b < 11 ∧ e ∈ rwA Z h b ∧ g 0 = iI ↑h ∧ g 1 = iI ↑b) ∨ ((∀ h b, h < 2 → b < 11 → e ∉ rwA Z h b) ∧ g 0 = iI (-1) ∧ g 1 = iI (-1))) : g 0 = iI (aV Z e) ∧ g 1 = iI (bkA (aV Z e) (aL Z 0) (aL Z 1) (aH Z e)) := by
  rcases h9 with ⟨k, b, h1, h2, h3, h4, h5⟩ | ⟨h1, h2, h3⟩
  · have h6 := (rw_in hI h1 (rw_mem.mp h3).1).2.2.2.1
    have h7 := (rw_mem.mp h3).2
    rw [h6]
    refine ⟨h4, h5.trans (congrArg iI ?_)⟩
    rcases (show k = 0 ∨ k = 1 by omega) with rfl | rfl
    · exact (congrArg (fun z : Nat => (↑z : Int)) h7).symm
    · exact (congrArg (fun z : Nat => (↑z : Int)) h7).symm
  · rw [rw_no hI hn h1]
    exact ⟨h2, h3⟩
end SAME
section CPD
variable {p : Program} {l : Launch} {e : Env} {R : Room} {s : State} {m : MethodId} {args : Array Value} {below : List Frame} {meth : Method} {c : Code} {H : Heap} {locs : List Loc} {cells slots : Nat} {Q : State → Prop}
variable {pc : Nat} {ls : Array Slot} {rest st0 : List Value} {D : va_G} {A0 : Nat → Prop} {a : Array Value} {ws wc wr : va_W} {H0 : Heap} {mc ms : Nat} {cs : List Choice} {d0 : Drawn}
theorem cp_iD (hd0 : s.drawn.sameBut d0 cs) {S : Type} {w1 ws2 : S → va_W} {post : Int32 → S → Prop} (hr : va_RunD cs p l e R (s.setDrawn d0) m args below meth c H locs cells slots mc ms (F0 m pc ls st0) rest (va_Qi post (fun (u : S) t => wPost D (va_A wc H.size) (w1 u) t) (va_A wc H.size) a) (va_A wc H.size)) (hS : va_S A0 H0 H locs) (hP : va_P D vwCl ws H) (hD : va_D A0 ws) (hA : ∀ q, H0.size ≤ q → A0 q) (hC : ws.Perm (wr ++ wc)) (hB : ∀ u, (wr ++ w1 u).Perm (ws2 u))
    (kk : ∀ (r : Int32) (u : S) (H1 : Heap) (locs1 : List Loc) (d1 : Drawn), s.drawn.sameBut d1 cs → post r u → va_P D vwCl (ws2 u) H1 → va_D A0 (ws2 u) → va_S A0 H0 H1 locs1 → W p l e R (s.setDrawn d1) m args below meth c H1 locs1 (cells + mc) (slots + ms) Q (F0 m (pc + 3) ls (.int r :: rest))) : W p l e R (s.setDrawn d0) m args below meth c H locs cells slots Q (F0 m pc ls st0) := by
  have hF := pm_free hD hS hA hC
  refine va_calliD hd0 hr hS (fun q _ h => hF q h) hF (fun r u t H1 locs1 ht _ hp hB9 _ hk h3 d1 hd1 => by
    obtain ⟨hP1, hD1⟩ := hB9
    rw [ht] at hP1
    obtain ⟨k1, k2⟩ := pm_join (pm_P hP hC) (pm_D hD hC) hk hF hP1 hD1
    exact kk r u H1 locs1 d1 hd1 hp (pm_P k1 (hB u)) (pm_D k2 (hB u)) h3)
end CPD
