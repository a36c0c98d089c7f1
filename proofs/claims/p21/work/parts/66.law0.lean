/-! the law's checks, in whole numbers -/
theorem nd_take {L : List Nat} (hn : L.Nodup) {i : Nat} (hi : i < L.length) : L.getD i 0 ∉ L.take i := by
  have h1 : (L.take (i + 1)).Nodup := hn.sublist (List.take_sublist _ _)
  rw [take_s hi] at h1
  exact fun q => (List.nodup_append.mp h1).2.2 _ q _ List.mem_cons_self rfl
abbrev pS (Z : va_AS) (h b : Nat) : Nat := psum (cnt (ka (aL Z h) (aH Z)) (aR Z h)) b
section LW
variable {Z : va_AS} {h : Nat}
theorem pS_s (Z : va_AS) (h b : Nat) : pS Z h (b + 1) = pS Z h b + (rwA Z h b).length := by
  rw [show (rwA Z h b).length = cnt (ka (aL Z h) (aH Z)) (aR Z h) b from bkL_len _ _ b]
  rfl
theorem pS_11 (hI : AI Z) (hh : h < 2) : pS Z h 11 = (aR Z h).length := by
  obtain ⟨-, j2, j3⟩ := hI.2.2.1 h hh
  exact psum_all (heaOk_bk j2 j3)
theorem pS_le (Z : va_AS) (h b : Nat) : pS Z h b ≤ (aR Z h).length := cnt_psum_le _ _ b
theorem row_at (hI : AI Z) (hh : h < 2) {b k : Nat} (hk : k < (rwA Z h b).length) : (rwA Z h b).getD k 0 = (aR Z h).getD (pS Z h b + k) 0 ∧ pS Z h b + k < (aR Z h).length := by
  obtain ⟨-, j2, j3⟩ := hI.2.2.1 h hh
  refine ⟨bkL_getD j2.1 (by rw [← bkL_len]; exact hk), ?_⟩
  have h1 := pS_le Z h (b + 1)
  rw [pS_s] at h1
  omega
def sn (av : Nat → Int) (a : Nat) (M : List Nat) (e : Nat) : Int := if (0 ≤ av e ∧ av e < ↑a) ∨ e ∈ M then 1 else 0
theorem sn_push {n a y : Nat} {av : Nat → Int} {M : List Nat} {g g2 : Nat → Int32} {v : Int32} (hg : ∀ e, e < n → g e = iI (sn av a M e)) (hy : av y = ↑a) (hyM : y ∉ M) (e2 : g2 = upd g y v) (hv : v = iI (sn av a M y + 1)) : ∀ e, e < n → g2 e = iI (sn av a (M ++ [y]) e) := by
  intro e he
  rw [e2]
  by_cases c : e = y
  · subst c
    have h0 : sn av a M e = 0 := if_neg (fun q => by rcases q with q | q; omega; exact hyM q)
    have h1 : sn av a (M ++ [e]) e = 1 := if_pos (Or.inr (List.mem_append_right _ List.mem_cons_self))
    rw [upd_s, hv, h0, h1]
    rfl
  · rw [upd_n _ _ c, hg e he]
    refine congrArg iI ?_
    have h1 : (e ∈ M ++ [y]) ↔ e ∈ M := ⟨fun q => by rcases List.mem_append.mp q with q | q; exact q; exact absurd (List.mem_singleton.mp q) c, fun q => List.mem_append_left _ q⟩
    unfold sn
    simp only [h1]
theorem sn_next {n a e : Nat} {av : Nat → Int} {L : List Nat} (hL : inH n av a L) (he : e < n) : sn av a L e = sn av (a + 1) [] e := by
  have h1 : ((0 ≤ av e ∧ av e < ↑a) ∨ e ∈ L) ↔ ((0 ≤ av e ∧ av e < ↑(a + 1)) ∨ e ∈ ([] : List Nat)) := by
    constructor
    · rintro (q | q)
      · exact Or.inl ⟨q.1, by omega⟩
      · have := ((hL e).mp q).2
        exact Or.inl ⟨by omega, by omega⟩
    · rintro (q | q)
      · by_cases c : av e = ↑a
        · exact Or.inr ((hL e).mpr ⟨he, c⟩)
        · exact Or.inl ⟨q.1, by omega⟩
      · exact absurd q List.not_mem_nil
  unfold sn
  simp only [h1]
theorem sn_0 (av : Nat → Int) (e : Nat) : sn av 0 [] e = 0 := if_neg (fun q => by rcases q with q | q; omega; exact absurd q List.not_mem_nil)
theorem sn_rg (av : Nat → Int) (a : Nat) (M : List Nat) (e : Nat) : 0 ≤ sn av a M e ∧ sn av a M e ≤ 1 := by
  unfold sn
  split <;> omega
theorem sn_2 (hI : AI Z) {e : Nat} (he : e < aN Z) : (aV Z e = -1 → sn (aV Z) 2 [] e = 0) ∧ (aV Z e ≠ -1 → sn (aV Z) 2 [] e = 1) := by
  have h1 := hI.2.1 e he
  refine ⟨fun q => if_neg (fun z => by rcases z with z | z; omega; exact absurd z List.not_mem_nil), fun q => if_pos (Or.inl ⟨by omega, by omega⟩)⟩
theorem rw_bk (hI : AI Z) (hh : h < 2) {e b : Nat} (he : e ∈ rwA Z h b) : aV Z e = ↑h ∧ bkA (aV Z e) (aL Z 0) (aL Z 1) (aH Z e) = ↑b ∧ bk (aL Z h) (aH Z e) = b ∧ aL Z h ≤ aH Z e ∧ aH Z e < 1024 ∧ e < aN Z := by
  obtain ⟨a1, a2⟩ := rw_mem.mp he
  obtain ⟨b1, b2, b3, b4, b5, b6⟩ := rw_in hI hh a1
  refine ⟨b4, ?_, a2, b5, b6, b3⟩
  rw [b4]
  rcases (show h = 0 ∨ h = 1 by omega) with rfl | rfl
  · exact congrArg (fun z : Nat => (↑z : Int)) a2
  · exact congrArg (fun z : Nat => (↑z : Int)) a2
theorem bk_up {lo x b : Nat} (e : bk lo x = b) : (↑(x / 2 ^ b) : Int) = ↑(lo / 2 ^ b) := by
  have h1 := bk_le.mp (Nat.le_of_eq e)
  rw [h1]
theorem bk_dn {lo x b : Nat} (e : bk lo x = b) (hb : 0 < b) : (↑(x / 2 ^ (b - 1)) : Int) ≠ ↑(lo / 2 ^ (b - 1)) := fun q => by
  have h1 := bk_eqT q
  omega
theorem fst_neg (lo : Nat) (Hh : Nat → Nat) (L : List Nat) : (fstL lo Hh L < 0 ↔ L.length = 0) ∧ -1 ≤ fstL lo Hh L := by
  unfold fstL
  by_cases c : L = []
  · rw [if_pos c, c]
    exact ⟨⟨fun _ => rfl, fun _ => by decide⟩, by decide⟩
  · rw [if_neg c]
    refine ⟨⟨fun q => by omega, fun q => absurd (List.eq_nil_of_length_eq_zero q) c⟩, by omega⟩
theorem fst_lst (hI : AI Z) (hh : h < 2) : fstL (aL Z h) (aH Z) (aR Z h) ≤ lstL (aL Z h) (aH Z) (aR Z h) ∧ -1 ≤ lstL (aL Z h) (aH Z) (aR Z h) ∧ lstL (aL Z h) (aH Z) (aR Z h) < 11 := by
  obtain ⟨-, j2, j3⟩ := hI.2.2.1 h hh
  unfold fstL lstL
  by_cases c : aR Z h = []
  · rw [if_pos c, if_pos c]
    exact ⟨Int.le_refl _, by decide, by decide⟩
  · rw [if_neg c, if_neg c]
    obtain ⟨l1, l2⟩ := last_max j2.1 c
    have h1 := l2 _ (rk_head j2 c).1
    have h2 := heaOk_bk j2 j3 _ l1
    exact ⟨by omega, by omega, by omega⟩
theorem bkA_neg {a : Int} (l0 l1 x : Nat) (h : -1 ≤ a ∧ a ≤ 1) : (a = -1 → bkA a l0 l1 x = -1) ∧ (a ≠ -1 → 0 ≤ bkA a l0 l1 x) := by
  unfold bkA
  refine ⟨fun q => ?_, fun q => ?_⟩
  · rw [if_neg (by omega), if_neg (by omega)]
  · split
    · omega
    · rw [if_pos (by omega)]
      omega
theorem bkA_rg (hI : AI Z) {e : Nat} (he : e < aN Z) : -1 ≤ bkA (aV Z e) (aL Z 0) (aL Z 1) (aH Z e) ∧ bkA (aV Z e) (aL Z 0) (aL Z 1) (aH Z e) ≤ 10 := by
  have h1 := hI.2.1 e he
  have h2 := bk_le10 (hI.2.2.1 0 (by decide)).2.2 h1.1
  have h3 := bk_le10 (hI.2.2.1 1 (by decide)).2.2 h1.1
  unfold bkA
  split
  · omega
  · split <;> omega
end LW
/-! raked again and again -/
section NXT
variable {lo : Nat} {Hh : Nat → Nat} {L : List Nat}
theorem nx_min (ok : heaOk lo Hh L) (hne : L ≠ []) : Hh ((rkL lo Hh L).headD 0) = rkLo lo Hh L ∧ (∀ x ∈ L, rkLo lo Hh L ≤ Hh x) ∧ (rkL lo Hh L).headD 0 ∈ L := by
  have h1 := rkL_ok ok hne
  have h2 := rkL_perm ok
  refine ⟨(bk_0.mp (rkL_head0 ok hne)).symm, fun x hx => (h1.2.2 x (h2.mem_iff.mpr hx)).1, h2.mem_iff.mp ?_⟩
  have h3 := (rkL_ne ok hne).1
  cases e : rkL lo Hh L with
  | nil => rw [e] at h3; exact absurd h3 (Nat.lt_irrefl 0)
  | cons y T => exact List.mem_cons_self
abbrev nxE (lo : Nat) (Hh : Nat → Nat) (L : List Nat) (k : Nat) : Nat := (rkL (rkI lo Hh L k).1 Hh (rkI lo Hh L k).2).headD 0
theorem rkI_ne (ok : heaOk lo Hh L) (hlo : lo < 1024) {k : Nat} (hk : k < L.length) : (rkI lo Hh L k).2 ≠ [] := fun q => by
  have h1 := (rkI_ok ok hlo k (Nat.le_of_lt hk)).2.2
  rw [q] at h1
  have h1 : 0 = L.length - k := h1
  omega
theorem rkI_st (ok : heaOk lo Hh L) (hlo : lo < 1024) {k : Nat} (hk : k < L.length) : ∀ x ∈ (rkI lo Hh L (k + 1)).2, x ∈ (rkI lo Hh L k).2 := fun x hx =>
  (rkL_perm (rkI_ok ok hlo k (Nat.le_of_lt hk)).1).mem_iff.mp (List.mem_of_mem_tail hx)
theorem rkI_sub (ok : heaOk lo Hh L) (hlo : lo < 1024) : ∀ k, k ≤ L.length → ∀ x ∈ (rkI lo Hh L k).2, x ∈ L
  | 0, _, x, hx => hx
  | k + 1, hk, x, hx => rkI_sub ok hlo k (by omega) x (rkI_st ok hlo (by omega) x hx)
theorem nx_in (ok : heaOk lo Hh L) (hlo : lo < 1024) {k : Nat} (hk : k < L.length) : nxE lo Hh L k ∈ L :=
  rkI_sub ok hlo k (Nat.le_of_lt hk) _ (nx_min (rkI_ok ok hlo k (Nat.le_of_lt hk)).1 (rkI_ne ok hlo hk)).2.2
theorem nx_mono (ok : heaOk lo Hh L) (hlo : lo < 1024) {k : Nat} (hk : k + 1 < L.length) : Hh (nxE lo Hh L k) ≤ Hh (nxE lo Hh L (k + 1)) := by
  obtain ⟨h1, h2, -⟩ := nx_min (rkI_ok ok hlo k (by omega)).1 (rkI_ne ok hlo (show k < L.length by omega))
  have h3 := (nx_min (rkI_ok ok hlo (k + 1) (by omega)).1 (rkI_ne ok hlo hk)).2.2
  have h4 := h2 _ (rkI_st ok hlo (show k < L.length by omega) _ h3)
  show Hh ((rkL (rkI lo Hh L k).1 Hh (rkI lo Hh L k).2).headD 0) ≤ _
  rw [h1]
  exact h4
theorem rkBs_st (ok : heaOk lo Hh L) (hlo : lo < 1024) {k : Nat} (hk : k < L.length) : (rkBs lo Hh L k).length ≤ (rkBs lo Hh L (k + 1)).length ∧ (rkBs lo Hh L (k + 1)).length + k ≤ (rkBs lo Hh L k).length + L.length := by
  have h1 : (rkBs lo Hh L (k + 1)).length = (rkBs lo Hh L k).length + (rkB (rkI lo Hh L k).1 Hh (rkI lo Hh L k).2).length := List.length_append
  have h2 : (rkB (rkI lo Hh L k).1 Hh (rkI lo Hh L k).2).length ≤ (rkI lo Hh L k).2.length := by
    unfold rkB
    split
    · exact Nat.zero_le _
    · rw [List.length_take]
      omega
  have h3 := (rkI_ok ok hlo k (Nat.le_of_lt hk)).2.2
  omega
theorem adv_ok (lo : Nat) (Hh : Nat → Nat) (L : List Nat) : ∀ i : Nat, ((∀ j, j < i → j ∉ L) ∧ (advI lo Hh L i).1 = -1) ∨ ∃ j : Nat, j ∈ L ∧ (advI lo Hh L i).1 = ↑j
  | 0 => Or.inl ⟨fun j hj => absurd hj (Nat.not_lt_zero j), rfl⟩
  | i + 1 => by
    by_cases c : i ∈ L
    · by_cases d : (advI lo Hh L i).1 = -1 ∨ advM lo Hh L i < (advI lo Hh L i).2
      · rw [advI_new c d]
        exact Or.inr ⟨i, c, rfl⟩
      · rw [advI_keep c d]
        rcases adv_ok lo Hh L i with q | q
        · exact absurd (Or.inl q.2) d
        · exact Or.inr q
    · rw [advI_out c]
      rcases adv_ok lo Hh L i with q | q
      · refine Or.inl ⟨fun j hj => ?_, q.2⟩
        rcases Nat.lt_or_ge j i with r | r
        · exact q.1 j r
        · rw [show j = i by omega]
          exact c
      · exact Or.inr q
end NXT
theorem adv_of {Z : va_AS} (hI : AI Z) {h : Nat} (hh : h < 2) : (aR Z h = [] ∧ (advI (aL Z h) (aH Z) (aR Z h) (aN Z)).1 = -1) ∨ ∃ j : Nat, j ∈ aR Z h ∧ (advI (aL Z h) (aH Z) (aR Z h) (aN Z)).1 = ↑j := by
  rcases adv_ok (aL Z h) (aH Z) (aR Z h) (aN Z) with ⟨q1, q2⟩ | q
  · refine Or.inl ⟨?_, q2⟩
    cases e : aR Z h with
    | nil => rfl
    | cons y T =>
      have h1 : y ∈ aR Z h := by rw [e]; exact List.mem_cons_self
      exact absurd h1 (q1 y ((AI_len hI hh).2.1 y h1))
  · exact Or.inr q
theorem pm_4 (A C O P : va_W) : (A ++ (C ++ (O ++ P))).Perm (A ++ ((C ++ O) ++ P)) := by rw [List.append_assoc C O P]
theorem pm_5 (C O P : va_W) : (C ++ (O ++ P)).Perm ([] ++ ((C ++ O) ++ P)) := by rw [List.append_assoc C O P, List.nil_append]
theorem pm_6 (A C S : va_W) : (A ++ (C ++ S)).Perm ((A ++ C) ++ S) := by rw [List.append_assoc]
theorem pm_7 (X Y S : va_W) : ((X ++ Y) ++ S).Perm ((X ++ S) ++ Y) := by rw [List.append_assoc, List.append_assoc]; exact List.Perm.append_left X List.perm_append_comm
theorem lg_same (x : Int64) : lg_cmp x x = iI 0 := by
  unfold lg_cmp
  first | rfl | simp
  try rfl
