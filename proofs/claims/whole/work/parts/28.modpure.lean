/-! the reference: embers by when they came; rows that are put in order -/
theorem nb_all (x : Nat) : (nb x ≤ 0 ↔ x < 1) ∧ (nb x ≤ 1 ↔ x < 2) ∧ (nb x ≤ 2 ↔ x < 4) ∧ (nb x ≤ 3 ↔ x < 8) ∧ (nb x ≤ 4 ↔ x < 16) ∧ (nb x ≤ 5 ↔ x < 32) ∧ (nb x ≤ 6 ↔ x < 64) ∧ (nb x ≤ 7 ↔ x < 128) ∧ (nb x ≤ 8 ↔ x < 256) ∧ (nb x ≤ 9 ↔ x < 512) ∧ (nb x ≤ 10 ↔ x < 1024) :=
  ⟨nb_le, nb_le, nb_le, nb_le, nb_le, nb_le, nb_le, nb_le, nb_le, nb_le, nb_le⟩
theorem ushr_I {a : Nat} (h : a < 2147483648) (s : Int32) (k : Nat) (hs : ((s.toUInt32 &&& Int32.toUInt32 31).toBitVec % 32).toNat = k) : ((iI ↑a).toUInt32 >>> (s.toUInt32 &&& Int32.toUInt32 31)).toInt32 = iI ↑(a / 2 ^ k) := by
  rw [← nI_i, ← nI_i]
  exact pk_ushrN (by omega) s k hs
def fl (L : List Nat) (i : Nat) : List Nat := L.filter (fun x => decide (x < i))
theorem fl_mem {L : List Nat} {i x : Nat} : x ∈ fl L i ↔ x ∈ L ∧ x < i := by
  unfold fl
  rw [List.mem_filter]; simp
theorem fl_0 (L : List Nat) : fl L 0 = [] := by
  unfold fl
  rw [List.filter_eq_nil_iff]
  intro x _
  simp
theorem fl_all {L : List Nat} {n : Nat} (h : ∀ x ∈ L, x < n) : fl L n = L := by
  unfold fl
  rw [List.filter_eq_self]
  intro x hx
  simp [h x hx]
theorem fl_out {L : List Nat} {i : Nat} (h : i ∉ L) : fl L (i + 1) = fl L i := by
  unfold fl
  apply List.filter_congr
  intro x hx
  have : x ≠ i := fun q => h (q ▸ hx)
  simp only [decide_eq_decide]
  omega
/-- where an ember of a row in order comes among the lesser numbers -/
theorem fl_split {R : Nat → Nat → Prop} {M : List Nat} {e : Nat} (hR : M.Pairwise R) (hn : M.Nodup) (he : e ∈ M) : ∃ p, p ≤ (fl M e).length ∧ (∀ j, j < p → R ((fl M e).getD j 0) e) ∧ (∀ j, p ≤ j → j < (fl M e).length → R e ((fl M e).getD j 0)) ∧ (fl M e).take p ++ e :: (fl M e).drop p = fl M (e + 1) := by
  obtain ⟨A, C, rfl⟩ := List.append_of_mem he
  obtain ⟨hA, hC, hAC⟩ := List.pairwise_append.mp hR
  obtain ⟨hC1, hC2⟩ := List.pairwise_cons.mp hC
  have hnA : e ∉ A := fun q => by
    have := (List.pairwise_append.mp hn).2.2 e q e List.mem_cons_self
    exact this rfl
  have hnC : e ∉ C := fun q => (List.nodup_cons.mp (List.pairwise_append.mp hn).2.1).1 q
  have e1 : fl (A ++ e :: C) e = fl A e ++ fl C e := by
    unfold fl
    rw [List.filter_append, List.filter_cons_of_neg (by simp)]
  have e2 : fl (A ++ e :: C) (e + 1) = fl A e ++ e :: fl C e := by
    have a1 := fl_out hnA
    have a2 := fl_out hnC
    unfold fl at a1 a2 ⊢
    rw [List.filter_append, List.filter_cons_of_pos (by simp), a1, a2]
  rw [e1, e2]
  refine ⟨(fl A e).length, by simp, fun j hj => ?_, fun j h1 h2 => ?_, ?_⟩
  · rw [getD_app_l hj]
    exact hAC _ (fl_mem.mp (getD_in hj)).1 e List.mem_cons_self
  · rw [List.length_append] at h2
    rw [getD_app_r h1]
    exact hC1 _ (fl_mem.mp (getD_in (by omega))).1
  · rw [List.take_left', List.drop_left'] <;> rfl
theorem fl_in_len {M : List Nat} {e : Nat} (hn : M.Nodup) (he : e ∈ M) : (fl M (e + 1)).length = (fl M e).length + 1 := by
  obtain ⟨p, h1, -, -, h4⟩ := fl_split (R := fun _ _ => True) (List.pairwise_of_forall (fun _ _ => trivial)) hn he
  rw [← h4, List.length_append, List.length_cons, List.length_take, List.length_drop]
  omega
theorem fl_in_mem {M : List Nat} {e x : Nat} (he : e ∈ M) : x ∈ fl M (e + 1) ↔ x = e ∨ x ∈ fl M e := by
  rw [fl_mem, fl_mem]
  constructor
  · rintro ⟨h1, h2⟩
    rcases Nat.lt_or_ge x e with c | c
    · exact Or.inr ⟨h1, c⟩
    · exact Or.inl (by omega)
  · rintro (h | ⟨h1, h2⟩)
    · exact ⟨h ▸ he, by omega⟩
    · exact ⟨h1, by omega⟩
theorem fl_len (L : List Nat) (i : Nat) : (fl L i).length ≤ L.length := List.length_filter_le _ _
theorem minL_in_fl {Hh : Nat → Nat} {L : List Nat} {i : Nat} (h : i ∈ L) : minL Hh (fl L (i + 1)) = min (minL Hh (fl L i)) (Hh i) := by
  have t := minL_top Hh (fl L i)
  refine minL_eq (by omega) (fun x hx => ?_) ?_
  · rcases (fl_in_mem h).mp hx with rfl | hx
    · omega
    · have := minL_le (Hh := Hh) hx
      omega
  · rcases minL_of Hh (fl L i) with c | ⟨x, hx, c⟩
    · rcases Nat.lt_or_ge (Hh i) 1023 with d | d
      · exact Or.inr ⟨i, (fl_in_mem h).mpr (Or.inl rfl), by omega⟩
      · exact Or.inl (by omega)
    · rcases Nat.lt_or_ge (Hh i) (minL Hh (fl L i)) with d | d
      · exact Or.inr ⟨i, (fl_in_mem h).mpr (Or.inl rfl), by omega⟩
      · exact Or.inr ⟨x, (fl_in_mem h).mpr (Or.inr hx), by omega⟩
theorem maxF_spec (Hh : Nat → Nat) : ∀ (L : List Nat) (a : Int), (a ≤ L.foldl (fun a x => max a ↑(Hh x)) a) ∧ (∀ x ∈ L, (↑(Hh x) : Int) ≤ L.foldl (fun a x => max a ↑(Hh x)) a) ∧ (L.foldl (fun a x => max a ↑(Hh x)) a = a ∨ ∃ x ∈ L, (↑(Hh x) : Int) = L.foldl (fun a x => max a ↑(Hh x)) a)
  | [], a => ⟨Int.le_refl _, (by intro x hx; cases hx), Or.inl rfl⟩
  | y :: L, a => by
    obtain ⟨h1, h2, h3⟩ := maxF_spec Hh L (max a ↑(Hh y))
    rw [List.foldl_cons]
    refine ⟨by omega, fun x hx => ?_, ?_⟩
    · rcases List.mem_cons.mp hx with rfl | hx
      · omega
      · exact h2 x hx
    · rcases h3 with h3 | ⟨x, hx, h3⟩
      · rcases Int.le_total (↑(Hh y)) a with c | c
        · exact Or.inl (by omega)
        · exact Or.inr ⟨y, List.mem_cons_self, by omega⟩
      · exact Or.inr ⟨x, List.mem_cons_of_mem _ hx, h3⟩
theorem maxL_eq {Hh : Nat → Nat} {L : List Nat} {m : Int} (h1 : -1 ≤ m) (h2 : ∀ x ∈ L, (↑(Hh x) : Int) ≤ m) (h3 : m = -1 ∨ ∃ x ∈ L, (↑(Hh x) : Int) = m) : maxL Hh L = m := by
  obtain ⟨a1, a2, a3⟩ := maxF_spec Hh L (-1)
  have e : maxL Hh L = L.foldl (fun a x => max a ↑(Hh x)) (-1) := rfl
  rw [← e] at a1 a2 a3
  rcases a3 with c | ⟨x, hx, c⟩
  · rcases h3 with d | ⟨y, hy, d⟩
    · omega
    · have := a2 y hy
      omega
  · have b1 := h2 x hx
    rcases h3 with d | ⟨y, hy, d⟩
    · omega
    · have := a2 y hy
      omega
theorem maxL_in_fl {Hh : Nat → Nat} {L : List Nat} {i : Nat} (h : i ∈ L) : maxL Hh (fl L (i + 1)) = max (maxL Hh (fl L i)) ↑(Hh i) := by
  obtain ⟨a1, a2, a3⟩ := maxF_spec Hh (fl L i) (-1)
  have e : maxL Hh (fl L i) = (fl L i).foldl (fun a x => max a ↑(Hh x)) (-1) := rfl
  rw [← e] at a1 a2 a3
  refine maxL_eq (by omega) (fun x hx => ?_) ?_
  · rcases (fl_in_mem h).mp hx with rfl | hx
    · omega
    · have := a2 x hx
      omega
  · rcases Int.le_total (↑(Hh i)) (maxL Hh (fl L i)) with d | d
    · rcases a3 with c | ⟨x, hx, c⟩
      · exact Or.inl (by omega)
      · exact Or.inr ⟨x, (fl_in_mem h).mpr (Or.inr hx), by omega⟩
    · exact Or.inr ⟨i, (fl_in_mem h).mpr (Or.inl rfl), by omega⟩
/-- the first (q = 1) or the last (q = 0) bucket -/
def isEnd (q : Int) (κ : Nat → Nat) (L : List Nat) (b : Int) : Prop := (L = [] ∧ b = -1) ∨ ∃ x ∈ L, b = ↑(κ x) ∧ ∀ y ∈ L, (q = 1 → κ x ≤ κ y) ∧ (q = 0 → κ y ≤ κ x)
theorem isEnd_0 (q : Int) (κ : Nat → Nat) (L : List Nat) : isEnd q κ (fl L 0) (-1) := Or.inl ⟨fl_0 L, rfl⟩
theorem isEnd_out {q : Int} {κ : Nat → Nat} {L : List Nat} {b : Int} {i : Nat} (h : isEnd q κ (fl L i) b) (hi : i ∉ L) : isEnd q κ (fl L (i + 1)) b := by rw [fl_out hi]; exact h
theorem isEnd_new {q : Int} {κ : Nat → Nat} {L : List Nat} {b : Int} {i : Nat} (h : isEnd q κ (fl L i) b) (hi : i ∈ L) (hq : q = 0 ∨ q = 1) (hb : b = -1 ∨ (q = 1 ∧ (↑(κ i) : Int) < b) ∨ (q = 0 ∧ b ≤ ↑(κ i))) : isEnd q κ (fl L (i + 1)) ↑(κ i) := by
  refine Or.inr ⟨i, (fl_in_mem hi).mpr (Or.inl rfl), rfl, fun y hy => ?_⟩
  rcases (fl_in_mem hi).mp hy with rfl | hy
  · exact ⟨fun _ => Nat.le_refl _, fun _ => Nat.le_refl _⟩
  · rcases h with ⟨h, -⟩ | ⟨x, hx, rfl, h⟩
    · rw [h] at hy; cases hy
    · obtain ⟨h1, h2⟩ := h y hy
      refine ⟨fun z => ?_, fun z => ?_⟩
      · have := h1 z
        omega
      · have := h2 z
        omega
theorem isEnd_keep {q : Int} {κ : Nat → Nat} {L : List Nat} {b : Int} {i : Nat} (h : isEnd q κ (fl L i) b) (hi : i ∈ L) (hb : ¬ (b = -1 ∨ (q = 1 ∧ (↑(κ i) : Int) < b) ∨ (q = 0 ∧ b ≤ ↑(κ i)))) : isEnd q κ (fl L (i + 1)) b := by
  rcases h with ⟨-, h⟩ | ⟨x, hx, rfl, h⟩
  · exact absurd (Or.inl h) hb
  · refine Or.inr ⟨x, (fl_in_mem hi).mpr (Or.inr hx), rfl, fun y hy => ?_⟩
    rcases (fl_in_mem hi).mp hy with rfl | hy
    · refine ⟨fun z => by omega, fun z => by omega⟩
    · exact h y hy
theorem isEnd_rg {q : Int} {κ : Nat → Nat} {L : List Nat} {b : Int} (h : isEnd q κ L b) (hk : ∀ x ∈ L, κ x ≤ 10) : -1 ≤ b ∧ b ≤ 10 := by
  rcases h with ⟨-, h⟩ | ⟨x, hx, h, -⟩
  · omega
  · have := hk x hx
    omega
theorem isEnd_fst {lo : Nat} {Hh : Nat → Nat} {L : List Nat} {b : Int} (h : isEnd 1 (ka lo Hh) L b) (hs : srt (ka lo Hh) L) : b = fstL lo Hh L := by
  unfold fstL
  rcases h with ⟨h, e⟩ | ⟨x, hx, e, h⟩
  · rw [if_pos h]; exact e
  · have hne : L ≠ [] := fun q => by rw [q] at hx; cases hx
    rw [if_neg hne, e]
    cases L with
    | nil => exact absurd rfl hne
    | cons y T =>
      have a1 := (h y List.mem_cons_self).1 rfl
      have a2 : ka lo Hh y ≤ ka lo Hh x := by
        rcases List.mem_cons.mp hx with rfl | hx
        · exact Nat.le_refl _
        · exact (List.pairwise_cons.mp hs).1 x hx
      show (↑(ka lo Hh x) : Int) = ↑(ka lo Hh y)
      omega
theorem isEnd_lst {lo : Nat} {Hh : Nat → Nat} {L : List Nat} {b : Int} (h : isEnd 0 (ka lo Hh) L b) (hs : srt (ka lo Hh) L) : b = lstL lo Hh L := by
  unfold lstL
  rcases h with ⟨h, e⟩ | ⟨x, hx, e, h⟩
  · rw [if_pos h]; exact e
  · have hne : L ≠ [] := fun q => by rw [q] at hx; cases hx
    obtain ⟨b1, b2⟩ := last_max hs hne
    have a1 := (h _ b1).2 rfl
    have a2 := b2 x hx
    rw [if_neg hne, e]
    omega
/-- the order of a hearth: by buckets, and in one by when they came -/
def lex (κ cm : Nat → Nat) (a b : Nat) : Prop := κ a < κ b ∨ (κ a = κ b ∧ cm a < cm b)
def ord (κ cm : Nat → Nat) (L : List Nat) : Prop := L.Pairwise (lex κ cm)
theorem ord_srt {κ cm : Nat → Nat} {L : List Nat} (h : ord κ cm L) : srt κ L := by
  unfold ord at h
  unfold srt
  exact h.imp (fun {a b} h => by rcases h with h | h <;> omega)
theorem ord_nodup {κ cm : Nat → Nat} {L : List Nat} (h : ord κ cm L) : L.Nodup := by
  unfold ord at h
  exact h.imp (fun {a b} h e => by subst e; rcases h with h | h <;> omega)
theorem ord_congr {κ μ cm dm : Nat → Nat} {L : List Nat} (h : ord κ cm L) (h1 : ∀ x ∈ L, μ x = κ x) (h2 : ∀ x ∈ L, dm x = cm x) : ord μ dm L := by
  unfold ord at h ⊢
  refine h.imp_of_mem (fun {a b} ha hb h => ?_)
  unfold lex at h ⊢
  rw [h1 a ha, h1 b hb, h2 a ha, h2 b hb]
  exact h
theorem ord_sub {κ cm : Nat → Nat} {A L : List Nat} (h : ord κ cm L) (hs : A.Sublist L) : ord κ cm A := List.Pairwise.sublist hs h
/-- one that comes now comes to the end of its bucket -/
theorem ord_ins {κ cm : Nat → Nat} {L : List Nat} {x g : Nat} (h : ord κ cm L) (hx : x ∉ L) (hg : ∀ y ∈ L, cm y < g) : ord κ (va_up cm x g) (ins κ L x) := by
  have h0 : ord κ (va_up cm x g) L := ord_congr h (fun _ _ => rfl) (fun y hy => va_up_ne _ _ (fun q => hx (q ▸ hy)))
  rw [ins_eq (ord_srt h)]
  unfold ord at h0 ⊢
  rw [List.pairwise_append]
  refine ⟨h0.filter _, List.pairwise_cons.mpr ⟨fun y hy => ?_, h0.filter _⟩, fun a ha b hb => ?_⟩
  · have := (List.mem_filter.mp hy).2
    simp at this
    exact Or.inl (by omega)
  · obtain ⟨ha1, h1⟩ := List.mem_filter.mp ha
    simp at h1
    rcases List.mem_cons.mp hb with rfl | hb
    · rcases Nat.lt_or_ge (κ a) (κ b) with c | c
      · exact Or.inl c
      · refine Or.inr ⟨by omega, ?_⟩
        rw [va_up_self, va_up_ne _ _ (fun q => hx (by rw [← q]; exact ha1))]
        exact hg a ha1
    · have h2 := (List.mem_filter.mp hb).2
      simp at h2
      exact Or.inl (by omega)
/-- the first i of a row come now, one after the other -/
def cmI (cm : Nat → Nat) (g : Nat) (B : List Nat) : Nat → Nat → Nat
  | 0 => cm
  | i + 1 => va_up (cmI cm g B i) (B.getD i 0) (g + i)
theorem cmI_out {cm : Nat → Nat} {g : Nat} {B : List Nat} {y : Nat} (hy : y ∉ B) : ∀ i, i ≤ B.length → cmI cm g B i y = cm y
  | 0, _ => rfl
  | i + 1, h => by
    have hne : y ≠ B.getD i 0 := fun q => hy (q ▸ getD_in (by omega))
    show va_up (cmI cm g B i) (B.getD i 0) (g + i) y = cm y
    rw [va_up_ne _ _ hne]
    exact cmI_out hy i (by omega)
theorem cmI_ord {κ cm : Nat → Nat} {L B : List Nat} {g : Nat} (h : ord κ cm L) (hg : ∀ y ∈ L, cm y < g) (hB : B.Nodup) (hd : ∀ y ∈ B, y ∉ L) : ∀ i, i ≤ B.length → ord κ (cmI cm g B i) (insA κ L (B.take i)) ∧ ∀ y ∈ insA κ L (B.take i), cmI cm g B i y < g + i
  | 0, _ => ⟨h, hg⟩
  | i + 1, hi => by
    obtain ⟨h1, h2⟩ := cmI_ord h hg hB hd i (by omega)
    have hx : B.getD i 0 ∉ insA κ L (B.take i) := by
      intro q
      rcases insA_mem.mp q with q | q
      · exact hd _ (getD_in (by omega)) q
      · obtain ⟨j, hj, e⟩ := List.getElem_of_mem q
        rw [List.length_take] at hj
        rw [List.getElem_take] at e
        have hi2 : i < B.length := by omega
        have e2 : B[j] = B[i] := by
          rw [e, List.getD_eq_getElem?_getD, List.getElem?_eq_getElem hi2, Option.getD_some]
        exact (List.pairwise_iff_getElem.mp hB) j i (by omega) hi2 (by omega) e2
    rw [insA_take _ _ _ (show i < B.length by omega)]
    refine ⟨ord_ins h1 hx h2, fun y hy => ?_⟩
    show va_up (cmI cm g B i) (B.getD i 0) (g + i) y < g + (i + 1)
    rcases ins_mem.mp hy with rfl | hy
    · rw [va_up_self]; omega
    · rw [va_up_ne _ _ (fun q => hx (by rw [← q]; exact hy))]
      have := h2 y hy
      omega
