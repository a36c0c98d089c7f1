/-! what a change of an ember's heat leaves; first and last buckets -/
theorem ka_congr {lo : Nat} {Hh Hg : Nat → Nat} {L : List Nat} (h : ∀ y ∈ L, Hg y = Hh y) : ∀ y ∈ L, ka lo Hg y = ka lo Hh y := fun y hy => by unfold ka; rw [h y hy]
theorem cnt_congr {κ μ : Nat → Nat} {L : List Nat} (h : ∀ y ∈ L, μ y = κ y) (b : Nat) : cnt μ L b = cnt κ L b := by
  unfold cnt
  exact List.countP_congr (fun x hx => by rw [h x hx])
theorem heaIs_congr {lw sz : Int32} {f sf : Nat → Int32} {lo n n2 : Nat} {Hh Hg : Nat → Nat} {L : List Nat} (h : heaIs lw sz f sf lo n Hh L) (hn : n ≤ n2) (hg : ∀ y ∈ L, Hg y = Hh y) : heaIs lw sz f sf lo n2 Hg L := by
  obtain ⟨a1, a2, a3, a4, a5⟩ := h
  refine ⟨a1, a2, a3, szC_of a3.2.1 (fun b hb => ?_), fun x hx => Nat.lt_of_lt_of_le (a5 x hx) hn⟩
  rw [cnt_congr (ka_congr hg), a4.1 b hb]
theorem heaOk_congr {lo : Nat} {Hh Hg : Nat → Nat} {L : List Nat} (h : heaOk lo Hh L) (hg : ∀ y ∈ L, Hg y = Hh y) : heaOk lo Hg L := by
  obtain ⟨a1, a2, a3⟩ := h
  refine ⟨?_, a2, fun x hx => by rw [hg x hx]; exact a3 x hx⟩
  unfold srt at a1 ⊢
  refine a1.imp_of_mem (fun ha hb hab => ?_)
  rw [ka_congr hg _ ha, ka_congr hg _ hb]
  exact hab
theorem embIs_set {el : Int32} {fh g : Nat → Int32} {n e x : Nat} {Hh : Nat → Nat} {v : Int32} (h : embIs el fh n Hh) (hx : x < 1024) (hv : v = iI ↑x) (eg : g = upd fh e v) : embIs el g n (va_up Hh e x) := by
  obtain ⟨a1, a2, a3⟩ := h
  refine ⟨a1, a2, fun i hi => ?_⟩
  rw [eg]
  by_cases c : i = e
  · subst c
    rw [upd_s, va_up_self]; exact ⟨hv, hx⟩
  · rw [upd_n _ _ c, va_up_ne _ _ c]
    exact a3 i hi
theorem embIs_add {el l2 : Int32} {fh g : Nat → Int32} {n x : Nat} {Hh : Nat → Nat} {v : Int32} (h : embIs el fh n Hh) (hn : n < 40) (hx : x < 1024) (hv : v = iI ↑x) (eg : g = upd fh n v) (e2 : l2 = iI (↑n + 1)) : embIs l2 g (n + 1) (va_up Hh n x) := by
  obtain ⟨a1, a2, a3⟩ := h
  refine ⟨e2, hn, fun i hi => ?_⟩
  rw [eg]
  by_cases c : i = n
  · subst c
    rw [upd_s, va_up_self]; exact ⟨hv, hx⟩
  · rw [upd_n _ _ c, va_up_ne _ _ c]
    exact a3 i (by omega)
theorem up_ne_of {Hh : Nat → Nat} {L : List Nat} {e x : Nat} (h : e ∉ L) : ∀ y ∈ L, va_up Hh e x y = Hh y := fun y hy => va_up_ne _ _ (fun q => h (q ▸ hy))
theorem del_notin {L : List Nat} {x : Nat} (hn : L.Nodup) (h : x ∈ L) : x ∉ del L x := fun q => ((del_mem hn h).mp q).2 rfl
def fstL (lo : Nat) (Hh : Nat → Nat) (L : List Nat) : Int := if L = [] then -1 else ↑(ka lo Hh (L.headD 0))
def lstL (lo : Nat) (Hh : Nat → Nat) (L : List Nat) : Int := if L = [] then -1 else ↑(ka lo Hh (L.getLastD 0))
theorem fst_of {lo : Nat} {Hh : Nat → Nat} {L : List Nat} (h : heaOk lo Hh L) (hlo : lo < 1024) : isFst (cnt (ka lo Hh) L) (fstL lo Hh L) := by
  unfold fstL
  by_cases c : L = []
  · subst c
    rw [if_pos rfl]
    exact Or.inl ⟨rfl, fun j _ => rfl⟩
  · rw [if_neg c]
    exact (rk_fst h c hlo).1
theorem last_max {κ : Nat → Nat} {L : List Nat} (h : srt κ L) (hne : L ≠ []) : L.getLastD 0 ∈ L ∧ ∀ x ∈ L, κ x ≤ κ (L.getLastD 0) := by
  induction L with
  | nil => exact absurd rfl hne
  | cons y T ih =>
    cases T with
    | nil => simp
    | cons z T =>
      obtain ⟨h1, h2⟩ := List.pairwise_cons.mp h
      obtain ⟨i1, i2⟩ := ih h2 (by simp)
      have e : (y :: z :: T).getLastD 0 = (z :: T).getLastD 0 := by simp [List.getLastD]
      rw [e]
      refine ⟨List.mem_cons_of_mem _ i1, fun x hx => ?_⟩
      rcases List.mem_cons.mp hx with rfl | hx
      · exact h1 _ i1
      · exact i2 x hx
theorem lst_of {lo : Nat} {Hh : Nat → Nat} {L : List Nat} (h : heaOk lo Hh L) (hlo : lo < 1024) : isLst (cnt (ka lo Hh) L) (lstL lo Hh L) := by
  unfold lstL
  by_cases c : L = []
  · subst c
    rw [if_pos rfl]
    exact Or.inl ⟨rfl, fun j _ => rfl⟩
  · rw [if_neg c]
    obtain ⟨h1, h2⟩ := last_max h.1 c
    have h3 : ka lo Hh (L.getLastD 0) ≤ 10 := bk_le10 hlo (h.2.2 _ h1).2
    refine Or.inr ⟨ka lo Hh (L.getLastD 0), by omega, rfl, ?_, fun j hj _ => ?_⟩
    · unfold cnt
      rw [List.countP_pos_iff]
      exact ⟨_, h1, by simp⟩
    · unfold cnt
      rw [List.countP_eq_zero]
      intro x hx
      have := h2 x hx
      simp only [beq_iff_eq]
      omega
theorem least_of {lo : Nat} {Hh : Nat → Nat} {L : List Nat} (h : heaOk lo Hh L) (hlo : lo < 1024) : ∃ m : Nat, szA (cnt (ka lo Hh) L) (fstL lo Hh L) = ↑m ∧ m ≤ L.length ∧ minL Hh (L.take m) = minL Hh L := by
  by_cases c : L = []
  · subst c
    exact ⟨0, rfl, Nat.le_refl _, rfl⟩
  · refine ⟨rkM lo Hh L, ?_, (rk_m h c).2, rk_min h c⟩
    unfold fstL
    rw [if_neg c, szA_nat, (rk_m h c).1]
    rfl
theorem mvA_0 (fm : Nat → Int32) (B : List Nat) : mvA 0 fm B = fm := if_pos rfl
/-- all that lie in a hearth come into the other one -/
def homesA (fo : Nat → Int32) (v : Int32) (B : List Nat) : Nat → Int32 := B.foldl (fun g x => upd g x v) fo
theorem homesA_take (fo : Nat → Int32) (v : Int32) (B : List Nat) {i : Nat} (h : i < B.length) : homesA fo v (B.take (i + 1)) = upd (homesA fo v (B.take i)) (B.getD i 0) v := by
  unfold homesA
  rw [List.take_add_one, List.getElem?_eq_getElem h, Option.toList_some, List.foldl_append, List.getD_eq_getElem?_getD, List.getElem?_eq_getElem h]
  rfl
