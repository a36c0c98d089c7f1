/-! buckets as rows; homes, counts (from the reference's part) -/
def fl (L : List Nat) (i : Nat) : List Nat := L.filter (fun x => decide (x < i))
theorem fl_mem {L : List Nat} {i x : Nat} : x ∈ fl L i ↔ x ∈ L ∧ x < i := by
  unfold fl
  rw [List.mem_filter]; simp
theorem fl_0 (L : List Nat) : fl L 0 = [] := by
  unfold fl
  rw [List.filter_eq_nil_iff]
  intro x _
  simp
theorem fl_all {L : List Nat} {n : Nat} (h : ∀ x ∈ L, x < n) : fl L n = L := by
  unfold fl
  rw [List.filter_eq_self]
  intro x hx
  simp [h x hx]
theorem fl_out {L : List Nat} {i : Nat} (h : i ∉ L) : fl L (i + 1) = fl L i := by
  unfold fl
  apply List.filter_congr
  intro x hx
  have : x ≠ i := fun q => h (q ▸ hx)
  simp only [decide_eq_decide]
  omega
theorem fl_split {R : Nat → Nat → Prop} {M : List Nat} {e : Nat} (hR : M.Pairwise R) (hn : M.Nodup) (he : e ∈ M) : ∃ p, p ≤ (fl M e).length ∧ (∀ j, j < p → R ((fl M e).getD j 0) e) ∧ (∀ j, p ≤ j → j < (fl M e).length → R e ((fl M e).getD j 0)) ∧ (fl M e).take p ++ e :: (fl M e).drop p = fl M (e + 1) := by
  obtain ⟨A, C, rfl⟩ := List.append_of_mem he
  obtain ⟨hA, hC, hAC⟩ := List.pairwise_append.mp hR
  obtain ⟨hC1, hC2⟩ := List.pairwise_cons.mp hC
  have hnA : e ∉ A := fun q => by
    have := (List.pairwise_append.mp hn).2.2 e q e List.mem_cons_self
    exact this rfl
  have hnC : e ∉ C := fun q => (List.nodup_cons.mp (List.pairwise_append.mp hn).2.1).1 q
  have e1 : fl (A ++ e :: C) e = fl A e ++ fl C e := by
    unfold fl
    rw [List.filter_append, List.filter_cons_of_neg (by simp)]
  have e2 : fl (A ++ e :: C) (e + 1) = fl A e ++ e :: fl C e := by
    have a1 := fl_out hnA
    have a2 := fl_out hnC
    unfold fl at a1 a2 ⊢
    rw [List.filter_append, List.filter_cons_of_pos (by simp), a1, a2]
  rw [e1, e2]
  refine ⟨(fl A e).length, by simp, fun j hj => ?_, fun j h1 h2 => ?_, ?_⟩
  · rw [getD_app_l hj]
    exact hAC _ (fl_mem.mp (getD_in hj)).1 e List.mem_cons_self
  · rw [List.length_append] at h2
    rw [getD_app_r h1]
    exact hC1 _ (fl_mem.mp (getD_in (by omega))).1
  · rw [List.take_left', List.drop_left'] <;> rfl
theorem fl_in_len {M : List Nat} {e : Nat} (hn : M.Nodup) (he : e ∈ M) : (fl M (e + 1)).length = (fl M e).length + 1 := by
  obtain ⟨p, h1, -, -, h4⟩ := fl_split (R := fun _ _ => True) (List.pairwise_of_forall (fun _ _ => trivial)) hn he
  rw [← h4, List.length_append, List.length_cons, List.length_take, List.length_drop]
  omega
theorem fl_in_mem {M : List Nat} {e x : Nat} (he : e ∈ M) : x ∈ fl M (e + 1) ↔ x = e ∨ x ∈ fl M e := by
  rw [fl_mem, fl_mem]
  constructor
  · rintro ⟨h1, h2⟩
    rcases Nat.lt_or_ge x e with c | c
    · exact Or.inr ⟨h1, c⟩
    · exact Or.inl (by omega)
  · rintro (h | ⟨h1, h2⟩)
    · exact ⟨h ▸ he, by omega⟩
    · exact ⟨h1, by omega⟩
theorem fl_len (L : List Nat) (i : Nat) : (fl L i).length ≤ L.length := List.length_filter_le _ _
theorem inH_nodup_len {L : List Nat} {n : Nat} (hn : L.Nodup) (h : ∀ x ∈ L, x < n) : L.length ≤ n := by
  have h1 : fl L n = L := fl_all h
  have key : ∀ i, (fl L i).length ≤ i := by
    intro i
    induction i with
    | zero => rw [fl_0]; exact Nat.le_refl _
    | succ i ih =>
      by_cases c : i ∈ L
      · rw [fl_in_len hn c]; omega
      · rw [fl_out c]; omega
  rw [← h1]
  exact key n
theorem bkL_len (κ : Nat → Nat) (L : List Nat) (b : Nat) : (bkL κ L b).length = cnt κ L b := by
  unfold bkL cnt
  rw [List.countP_eq_length_filter]
theorem ff_ (p q : Nat → Bool) (L : List Nat) : (L.filter q).filter p = L.filter (fun x => p x && q x) := by
  induction L with
  | nil => rfl
  | cons y T ih =>
    by_cases c : q y = true
    · by_cases d : p y = true
      · rw [List.filter_cons_of_pos c, List.filter_cons_of_pos d, List.filter_cons_of_pos (by simp [c, d]), ih]
      · rw [List.filter_cons_of_pos c, List.filter_cons_of_neg d, List.filter_cons_of_neg (by simp [c, d]), ih]
    · rw [List.filter_cons_of_neg c, List.filter_cons_of_neg (by simp [c]), ih]
theorem bkL_take {κ : Nat → Nat} {L : List Nat} (h : srt κ L) (b : Nat) : bkL κ L b = (L.drop (psum (cnt κ L) b)).take (cnt κ L b) := by
  have h1 := (srt_take b h).2
  rw [← psum_cnt] at h1
  have hs : srt κ (L.drop (psum (cnt κ L) b)) := List.Pairwise.sublist (List.drop_sublist _ _) h
  have h2 := (srt_take (b + 1) hs).1
  have e : (L.drop (psum (cnt κ L) b)).filter (fun x => decide (κ x < b + 1)) = bkL κ L b := by
    rw [h1, ff_]
    unfold bkL
    apply List.filter_congr
    intro x _
    rw [Bool.eq_iff_iff]
    simp only [Bool.and_eq_true, decide_eq_true_eq, Bool.not_eq_true', decide_eq_false_iff_not, beq_iff_eq]
    omega
  have e2 : (L.drop (psum (cnt κ L) b)).countP (fun x => decide (κ x < b + 1)) = cnt κ L b := by
    rw [List.countP_eq_length_filter, e, bkL_len]
  rw [e2, e] at h2
  exact h2.symm
theorem bkL_getD {κ : Nat → Nat} {L : List Nat} (h : srt κ L) {b k : Nat} (hk : k < cnt κ L b) : (bkL κ L b).getD k 0 = L.getD (psum (cnt κ L) b + k) 0 := by
  rw [bkL_take h, getD_take hk, getD_drop]
theorem bkL_rk {lo : Nat} {Hh : Nat → Nat} {L : List Nat} (h : heaOk lo Hh L) (hne : L ≠ []) : bkL (ka lo Hh) L (rkF lo Hh L) = L.take (rkM lo Hh L) := by
  unfold rkM
  rw [psum_cnt, (srt_take _ h.1).1]
  unfold bkL
  apply List.filter_congr
  intro x hx
  have := (rk_head h hne).2 x hx
  rw [Bool.eq_iff_iff]
  simp only [beq_iff_eq, decide_eq_true_eq]
  omega
theorem rkL_head0 {lo : Nat} {Hh : Nat → Nat} {L : List Nat} (h : heaOk lo Hh L) (hne : L ≠ []) : ka (rkLo lo Hh L) Hh ((rkL lo Hh L).headD 0) = 0 := by
  have h1 := rkL_ok h hne
  have hne2 : rkL lo Hh L ≠ [] := fun q => by have := (rkL_ne h hne).1; rw [q] at this; simp at this
  by_cases c : rkF lo Hh L = 0
  · have e1 : rkL lo Hh L = L := if_pos c
    have e2 : rkLo lo Hh L = lo := if_pos c
    rw [e1, e2]
    exact c
  · obtain ⟨x, hx, e⟩ := minL_in (Hh := Hh) hne (fun x hx => (h.2.2 x hx).2)
    have e2 : rkLo lo Hh L = minL Hh L := if_neg c
    have hk : ka (rkLo lo Hh L) Hh x = 0 := by
      rw [e2]
      exact bk_0.mpr e.symm
    have := (rk_head h1 hne2).2 x ((rkL_perm h).mem_iff.mpr hx)
    unfold rkF at this
    omega
theorem bkL_first {κ : Nat → Nat} {L : List Nat} (hne : L ≠ []) (h : κ (L.headD 0) = 0) : 0 < (bkL κ L 0).length ∧ (bkL κ L 0).getD 0 0 = L.headD 0 := by
  cases L with
  | nil => exact absurd rfl hne
  | cons y T =>
    have h : κ y = 0 := h
    have e : bkL κ (y :: T) 0 = y :: bkL κ T 0 := by
      unfold bkL
      rw [List.filter_cons_of_pos (by simp [h])]
    rw [e]
    exact ⟨by simp, rfl⟩
def avM (av : Nat → Int) (h : Nat) (B : List Nat) (x : Nat) : Int := if x ∈ B then (↑h : Int) else av x
theorem avM_in {av : Nat → Int} {h : Nat} {B : List Nat} {x : Nat} (c : x ∈ B) : avM av h B x = ↑h := if_pos c
theorem avM_out {av : Nat → Int} {h : Nat} {B : List Nat} {x : Nat} (c : x ∉ B) : avM av h B x = av x := if_neg c
theorem take_s {B : List Nat} {i : Nat} (h : i < B.length) : B.take (i + 1) = B.take i ++ [B.getD i 0] := by
  rw [List.take_add_one, List.getElem?_eq_getElem h, List.getD_eq_getElem?_getD, List.getElem?_eq_getElem h]; rfl
theorem home_up {fo fo2 : Nat → Int32} {n n2 x : Nat} {av : Nat → Int} {a : Int} (h : ∀ i, i < n → fo i = iI (av i)) (e : fo2 = upd fo x (iI a)) (hn : n2 = n ∨ (n2 = n + 1 ∧ x = n)) : ∀ i, i < n2 → fo2 i = iI (va_up av x a i) := by
  intro i hi
  rw [e]
  by_cases c : i = x
  · rw [c, upd_s, va_up_self]
  · rw [upd_n _ _ c, va_up_ne _ _ c]
    exact h i (by omega)
theorem rk_keep {fr fr2 : Nat → Int32} {x : Nat} {rk : Nat → Int} (h : ∀ i, i < 40 → fr i = iI (rk i)) (e : fr2 = upd fr x (iI 0)) (hx : rk x = 0) : ∀ i, i < 40 → fr2 i = iI (rk i) := by
  intro i hi
  rw [e]
  by_cases c : i = x
  · rw [c, upd_s, hx]
  · rw [upd_n _ _ c]
    exact h i hi
theorem rk_up {fr fr2 : Nat → Int32} {x : Nat} {rk : Nat → Int} (h : ∀ i, i < 40 → fr i = iI (rk i)) (e : fr2 = upd fr x (iI 1)) : ∀ i, i < 40 → fr2 i = iI (va_up rk x 1 i) := by
  intro i hi
  rw [e]
  by_cases c : i = x
  · rw [c, upd_s, va_up_self]
  · rw [upd_n _ _ c, va_up_ne _ _ c]
    exact h i hi
theorem add_mid (a b c : Int32) : a + b + c = a + c + b := by
  rw [Int32.add_assoc, Int32.add_comm b c, ← Int32.add_assoc]
theorem homesA_at (v : Int32) (fo : Nat → Int32) (j : Nat) : ∀ i (B : List Nat), i ≤ B.length → homesA fo v (B.take i) j = if j ∈ B.take i then v else fo j
  | 0, B, _ => by simp [homesA]
  | i + 1, B, hi => by
    rw [homesA_take _ _ _ (show i < B.length by omega), take_s (B := B) (i := i) (by omega)]
    by_cases c : j = B.getD i 0
    · rw [c, upd_s, if_pos (List.mem_append_right _ List.mem_cons_self)]
    · rw [upd_n _ _ c, homesA_at v fo j i B (by omega)]
      by_cases d : j ∈ B.take i
      · rw [if_pos d, if_pos (List.mem_append_left _ d)]
      · rw [if_neg d, if_neg (fun q => by rcases List.mem_append.mp q with q | q; exact d q; exact c (List.mem_singleton.mp q))]
theorem home_all {fo fo2 : Nat → Int32} {n k : Nat} {av : Nat → Int} {B : List Nat} {a : Int} (h : ∀ i, i < n → fo i = iI (av i)) (e : fo2 = homesA fo (iI a) B) (ha : a = (↑k : Int) := by rfl) : ∀ i, i < n → fo2 i = iI (avM av k B i) := by
  intro i hi
  have h1 := homesA_at (iI a) fo i B.length B (Nat.le_refl _)
  rw [take_all (Nat.le_refl _)] at h1
  rw [e, h1]
  by_cases c : i ∈ B
  · rw [if_pos c, avM_in c, ha]
  · rw [if_neg c, avM_out c]
    exact h i hi
theorem inH_two {n : Nat} {av : Nat → Int} {h k : Nat} {L M : List Nat} (hL : inH n av h L) (hM : inH n av k M) (hne : h ≠ k) : ∀ x, x ∈ L → x ∉ M := by
  intro x h1 h2
  have a := ((hL x).mp h1).2
  have b := ((hM x).mp h2).2
  omega
theorem two_len {n : Nat} {av : Nat → Int} {L M : List Nat} (h0 : inH n av 0 L) (h1 : inH n av 1 M) (n0 : L.Nodup) (n1 : M.Nodup) : L.length + M.length ≤ n := by
  have hd : ∀ x ∈ L, x ∉ M := inH_two h0 h1 (by decide)
  have hn : (L ++ M).Nodup := List.nodup_append.mpr ⟨n0, n1, fun x hx y hy e => hd x hx (e ▸ hy)⟩
  have := inH_nodup_len hn (fun x hx => by rcases List.mem_append.mp hx with q | q; exact ((h0 x).mp q).1; exact ((h1 x).mp q).1)
  rw [List.length_append] at this
  exact this
theorem tail_mem {L : List Nat} (hn : L.Nodup) (y : Nat) : y ∈ L.tail ↔ y ∈ L ∧ y ≠ L.headD 0 ∨ (L = [] ∧ False) := by
  cases L with
  | nil => simp
  | cons z T =>
    obtain ⟨h1, h2⟩ := List.nodup_cons.mp hn
    show y ∈ T ↔ (y ∈ z :: T ∧ y ≠ z) ∨ _
    rw [List.mem_cons]
    constructor
    · intro q
      exact Or.inl ⟨Or.inr q, fun e => h1 (e ▸ q)⟩
    · rintro (⟨q | q, e⟩ | ⟨q, -⟩)
      · exact absurd q e
      · exact q
      · cases q
theorem nodup_len40 {n : Nat} {L : List Nat} (hn : L.Nodup) (h : ∀ x ∈ L, x < n) : L.length ≤ n := inH_nodup_len hn h
theorem AI_len {Z : va_AS} (hI : AI Z) {h : Nat} (hh : h < 2) : (aR Z h).length ≤ aN Z ∧ (∀ x ∈ aR Z h, x < aN Z) ∧ (aR Z h).Nodup := by
  obtain ⟨i1, i2, i3, i4, i5⟩ := hI
  obtain ⟨j1, j2, j3⟩ := i3 h hh
  have hn : ∀ x ∈ aR Z h, x < aN Z := fun x hx => ((j1 x).mp hx).1
  exact ⟨inH_nodup_len j2.2.1 hn, hn, j2.2.1⟩
theorem rw40 {Z : va_AS} (hI : AI Z) (h : Nat) (hh : h < 2) (b : Nat) : (rwA Z h b).length ≤ 40 := by
  have h1 := (AI_len hI hh).1
  have h2 : (rwA Z h b).length ≤ (aR Z h).length := List.length_filter_le _ _
  have h3 := hI.1
  omega
