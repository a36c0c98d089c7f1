/-! sums that are kept; the law's rows against the state -/
def sumM (f : Nat → Int32) : Nat → Int32
  | 0 => iI 0
  | k + 1 => sumM f k + f k
def sumK (f : Nat → Int) : Nat → Int
  | 0 => 0
  | k + 1 => sumK f k + f k
theorem sumM_cg {f g : Nat → Int32} : ∀ n, (∀ i, i < n → f i = g i) → sumM f n = sumM g n
  | 0, _ => rfl
  | k + 1, h => by
    show sumM f k + f k = sumM g k + g k
    rw [sumM_cg k (fun i hi => h i (by omega)), h k (by omega)]
theorem sumK_cg {f g : Nat → Int} : ∀ n, (∀ i, i < n → f i = g i) → sumK f n = sumK g n
  | 0, _ => rfl
  | k + 1, h => by
    show sumK f k + f k = sumK g k + g k
    rw [sumK_cg k (fun i hi => h i (by omega)), h k (by omega)]
theorem sumM_up {f : Nat → Int32} {x : Nat} : ∀ n, x < n → sumM (upd f x (f x + 1)) n = sumM f n + 1
  | 0, h => absurd h (Nat.not_lt_zero x)
  | k + 1, h => by
    show sumM (upd f x (f x + 1)) k + upd f x (f x + 1) k = sumM f k + f k + 1
    by_cases c : x = k
    · subst c
      rw [upd_s, sumM_cg x (fun i hi => upd_n f _ (by omega)), Int32.add_assoc]
    · rw [upd_n f _ (fun e => c e.symm), sumM_up k (by omega), Int32.add_assoc, Int32.add_comm 1, ← Int32.add_assoc]
theorem sumM_mv {n : Nat} : ∀ (B : List Nat) (f : Nat → Int32), (∀ x ∈ B, x < n) → sumM (B.foldl bump f) n = sumM f n + iI ↑B.length
  | [], f, _ => (iI_z _).symm
  | x :: B, f, h => by
    show sumM (B.foldl bump (bump f x)) n = _
    rw [sumM_mv B (bump f x) (fun y hy => h y (List.mem_cons_of_mem _ hy))]
    unfold bump
    rw [sumM_up n (h x List.mem_cons_self), List.length_cons, Int32.add_assoc]
    congr 1
    rw [show (1 : Int32) = iI ↑(1 : Nat) from rfl, iI_add]
    congr 1
    omega
theorem sumM_mv1 {n : Nat} {B : List Nat} {f : Nat → Int32} (h : ∀ x ∈ B, x < n) : sumM (mvA 1 f B) n = sumM f n + iI ↑B.length := by
  unfold mvA
  rw [if_neg (by decide)]
  exact sumM_mv B f h
theorem mvF_out {i : Nat} : ∀ (B : List Nat) (f : Nat → Int32), i ∉ B → B.foldl bump f i = f i
  | [], f, _ => rfl
  | x :: B, f, h => by
    show B.foldl bump (bump f x) i = f i
    rw [mvF_out B (bump f x) (fun q => h (List.mem_cons_of_mem _ q))]
    exact upd_n f _ (fun e => h (by rw [e]; exact List.mem_cons_self))
theorem mvA_out {i : Nat} {B : List Nat} {f : Nat → Int32} (h : i ∉ B) : mvA 1 f B i = f i := by
  unfold mvA
  rw [if_neg (by decide)]
  exact mvF_out B f h
theorem sumK_up {f : Nat → Int} {x : Nat} : ∀ n, x < n → f x = 0 → sumK (va_up f x 1) n = sumK f n + 1
  | 0, h, _ => absurd h (Nat.not_lt_zero x)
  | k + 1, h, h0 => by
    show sumK (va_up f x 1) k + va_up f x 1 k = sumK f k + f k + 1
    by_cases c : x = k
    · subst c
      rw [va_up_self, sumK_cg (g := f) x (fun i hi => va_up_ne f _ (by omega)), h0]
      omega
    · rw [va_up_ne f _ (fun e => c e.symm), sumK_up k (by omega) h0]
      omega
theorem sumK_rg {f : Nat → Int} : ∀ n, (∀ i, i < n → f i = 0 ∨ f i = 1) → 0 ≤ sumK f n ∧ sumK f n ≤ ↑n
  | 0, _ => ⟨Int.le_refl 0, Int.le_refl 0⟩
  | k + 1, h => by
    have h1 := sumK_rg k (fun i hi => h i (by omega))
    have h2 := h k (by omega)
    show 0 ≤ sumK f k + f k ∧ sumK f k + f k ≤ ↑(k + 1)
    omega
def PI (Z : va_AS) : Prop := (∀ i, aN Z ≤ i → aM Z i = 0) ∧ sumM (aM Z) (aN Z) = aT Z ∧ aG Z 0 + aG Z 1 = iI (sumK (aK Z) (aN Z)) ∧ ∃ q : Nat, (↑(aN Z) : Int) = ↑(aR Z 0).length + ↑(aR Z 1).length + sumK (aK Z) (aN Z) + ↑q ∧ aQ Z = iI ↑q
theorem up_len {R : Nat → List Nat} {h : Nat} {M : List Nat} (hh : h < 2) : (↑(va_up R h M 0).length : Int) + ↑(va_up R h M 1).length = ↑(R 0).length + ↑(R 1).length + ↑M.length - ↑(R h).length := by
  rcases (show h = 0 ∨ h = 1 by omega) with rfl | rfl
  · rw [va_up_self, va_up_ne _ _ (show (1 : Nat) ≠ 0 by omega)]; omega
  · rw [va_up_self, va_up_ne _ _ (show (0 : Nat) ≠ 1 by omega)]; omega
theorem PI_lit {Z : va_AS} (hI : AI Z) (hP : PI Z) {h x : Nat} (hh : h < 2) (hn : aN Z < 40) : PI (litA Z h x) := by
  obtain ⟨p1, p2, p3, q, p4, p5⟩ := hP
  have hk0 : aK Z (aN Z) = 0 := hI.2.2.2.2 _ hn (Or.inl (Nat.le_refl _))
  refine ⟨fun i hi => p1 i (by have hi : aN Z + 1 ≤ i := hi; omega), ?_, ?_, q, ?_, p5⟩
  · show sumM (aM Z) (aN Z) + aM Z (aN Z) = aT Z
    rw [p1 _ (Nat.le_refl _), p2]
    exact Int32.add_zero _
  · show aG Z 0 + aG Z 1 = iI (sumK (aK Z) (aN Z) + aK Z (aN Z))
    rw [hk0, Int.add_zero]
    exact p3
  · show (↑(aN Z + 1) : Int) = ↑(va_up (aR Z) h _ 0).length + ↑(va_up (aR Z) h _ 1).length + (sumK (aK Z) (aN Z) + aK Z (aN Z)) + ↑q
    rw [up_len hh, ins_len, hk0]
    omega
theorem PI_fad {Z : va_AS} (hI : AI Z) (hP : PI Z) {h e x : Nat} (hh : h < 2) (he : e ∈ aR Z h) : PI (fadA Z h e x) := by
  obtain ⟨p1, p2, p3, q, p4, p5⟩ := hP
  refine ⟨p1, p2, p3, q, ?_, p5⟩
  show (↑(aN Z) : Int) = ↑(va_up (aR Z) h _ 0).length + ↑(va_up (aR Z) h _ 1).length + sumK (aK Z) (aN Z) + ↑q
  have := del_len he
  rw [up_len hh, ins_len]
  omega
theorem PI_que {Z : va_AS} (hI : AI Z) (hP : PI Z) {h e : Nat} (hh : h < 2) (he : e ∈ aR Z h) : PI (queA Z h e) := by
  obtain ⟨p1, p2, p3, q, p4, p5⟩ := hP
  refine ⟨p1, p2, p3, q + 1, ?_, ?_⟩
  · show (↑(aN Z) : Int) = ↑(va_up (aR Z) h _ 0).length + ↑(va_up (aR Z) h _ 1).length + sumK (aK Z) (aN Z) + ↑(q + 1)
    have := del_len he
    rw [up_len hh]
    omega
  · show aQ Z + 1 = iI ↑(q + 1)
    rw [p5]
    exact iI_add ↑q 1
theorem PI_rak {Z : va_AS} (hI : AI Z) (hP : PI Z) {h : Nat} (hh : h < 2) (hne : aR Z h ≠ []) : PI (rakA Z h) := by
  obtain ⟨p1, p2, p3, q, p4, p5⟩ := hP
  obtain ⟨hX, hne2⟩ := rkX_in hI hh hne
  obtain ⟨l1, l2, l3⟩ := AI_len hI hh
  obtain ⟨j1, j2, j3⟩ := hI.2.2.1 h hh
  have hXn : rkX Z h < aN Z := l2 _ hX
  have hk0 : aK Z (rkX Z h) = 0 := hI.2.2.2.2 _ (by have := hI.1; omega) (Or.inr (by have := ((j1 _).mp hX).2; omega))
  have hBs : ∀ x ∈ rkB (aL Z h) (aH Z) (aR Z h), x ∈ aR Z h := by
    intro x hx
    unfold rkB at hx
    by_cases c : rkF (aL Z h) (aH Z) (aR Z h) = 0
    · rw [if_pos c] at hx; cases hx
    · rw [if_neg c] at hx; exact List.mem_of_mem_take hx
  refine ⟨fun i hi => ?_, ?_, ?_, q, ?_, p5⟩
  · show mvA 1 (aM Z) _ i = 0
    rw [mvA_out (fun z => by have := l2 _ (hBs i z); have hi : aN Z ≤ i := hi; omega)]
    exact p1 i hi
  · show sumM (mvA 1 (aM Z) _) (aN Z) = aT Z + _
    rw [sumM_mv1 (fun x hx => l2 x (hBs x hx)), p2]
  · show upd (aG Z) h (aG Z h + 1) 0 + upd (aG Z) h (aG Z h + 1) 1 = iI (sumK (va_up (aK Z) (rkX Z h) 1) (aN Z))
    rw [sumK_up _ hXn hk0, ← iI_add, ← p3]
    rcases (show h = 0 ∨ h = 1 by omega) with rfl | rfl
    · rw [upd_s, upd_n _ _ (by omega), add_mid]; rfl
    · rw [upd_s, upd_n _ _ (by omega), ← Int32.add_assoc]; rfl
  · show (↑(aN Z) : Int) = ↑(va_up (aR Z) h _ 0).length + ↑(va_up (aR Z) h _ 1).length + sumK (va_up (aK Z) (rkX Z h) 1) (aN Z) + ↑q
    have := (rkL_ne j2 hne).2
    have := List.length_pos_iff.mpr hne
    rw [up_len hh, sumK_up _ hXn hk0, List.length_tail]
    omega
theorem PI_rai {Z : va_AS} (hI : AI Z) (hP : PI Z) {h x : Nat} (hh : h < 2) : PI (raiA Z h x) := by
  obtain ⟨p1, p2, p3, q, p4, p5⟩ := hP
  obtain ⟨l1, l2, l3⟩ := AI_len hI hh
  refine ⟨fun i hi => ?_, ?_, p3, q, ?_, p5⟩
  · show mvA 1 (aM Z) _ i = 0
    rw [mvA_out (fun z => by have := l2 _ z; have hi : aN Z ≤ i := hi; omega)]
    exact p1 i hi
  · show sumM (mvA 1 (aM Z) _) (aN Z) = aT Z + _
    rw [sumM_mv1 l2, p2]
  · show (↑(aN Z) : Int) = ↑(va_up (aR Z) h _ 0).length + ↑(va_up (aR Z) h _ 1).length + sumK (aK Z) (aN Z) + ↑q
    rw [up_len hh, insA_len]
    simp only [List.length_nil]
    omega
theorem PI_pou {Z : va_AS} (hI : AI Z) (hP : PI Z) {h : Nat} (hh : h < 2) : PI (pouA Z h) := by
  obtain ⟨p1, p2, p3, q, p4, p5⟩ := hP
  obtain ⟨l1, l2, l3⟩ := AI_len hI hh
  refine ⟨fun i hi => ?_, ?_, p3, q, ?_, p5⟩
  · show mvA 1 (aM Z) _ i = 0
    rw [mvA_out (fun z => by have := l2 _ z; have hi : aN Z ≤ i := hi; omega)]
    exact p1 i hi
  · show sumM (mvA 1 (aM Z) _) (aN Z) = aT Z + _
    rw [sumM_mv1 l2, p2]
  · show (↑(aN Z) : Int) = ↑(va_up (va_up (aR Z) (1 - h) _) h [] 0).length + ↑(va_up (va_up (aR Z) (1 - h) _) h [] 1).length + sumK (aK Z) (aN Z) + ↑q
    rw [up_len hh, va_up_ne _ _ (show h ≠ 1 - h by omega), up_len (show 1 - h < 2 by omega), insA_len]
    simp only [List.length_nil]
    omega
/-! the law's rows -/
theorem RS_lit {Z : va_AS} (hI : AI Z) {h x : Nat} (hh : h < 2) (hx : x < 1024) (hl : aL Z h ≤ x) (hn : aN Z < 40) : ∀ k b, k < 2 → b < 11 → rwA (litA Z h x) k b = putR (ka (aL Z h) (va_up (aH Z) (aN Z) x)) h (rwA Z) (aN Z) k b := by
  intro k b hk hb
  obtain ⟨i1, i2, i3, i4, i5⟩ := id hI
  have hnL : ∀ k, k < 2 → aN Z ∉ aR Z k := fun k hk q => by have := (((i3 k hk).1 _).mp q).1; omega
  have hag : ∀ k, k < 2 → ∀ y ∈ aR Z k, va_up (aH Z) (aN Z) x y = aH Z y := fun k hk => up_ne_of (hnL k hk)
  show bkL (ka (aL Z k) (va_up (aH Z) (aN Z) x)) (va_up (aR Z) h _ k) b = _
  by_cases c : k = h
  · subst c
    rw [va_up_self]
    exact (putR_bk (heaOk_congr (i3 k hk).2.1 (hag k hk)).1 (fun b => (bkL_congr (ka_congr (hag k hk)) b).symm) (aN Z) b).symm
  · rw [va_up_ne _ _ c, putR_ne _ _ c]
    exact bkL_congr (ka_congr (hag k hk)) b
theorem RS_que {Z : va_AS} (hI : AI Z) {h e : Nat} (hh : h < 2) (he : e ∈ aR Z h) : ∀ k b, rwA (queA Z h e) k b = va_up (rwA Z) h (va_up (rwA Z h) (bk (aL Z h) (aH Z e)) ((rwA Z h (bk (aL Z h) (aH Z e))).filter (fun y => decide (y ≠ e)))) k b := by
  intro k b
  show bkL (ka (aL Z k) (aH Z)) (va_up (aR Z) h _ k) b = _
  by_cases c : k = h
  · subst c
    rw [va_up_self, va_up_self, bkL_del (hI.2.2.1 k hh).2.1.2.1 he]
    by_cases d : b = bk (aL Z k) (aH Z e)
    · subst d
      rw [va_up_self]
      exact if_pos rfl
    · rw [va_up_ne _ _ d]
      exact if_neg d
  · rw [va_up_ne _ _ c, va_up_ne _ _ c]
    rfl
theorem RS_fad {Z : va_AS} (hI : AI Z) {h e x : Nat} (hh : h < 2) (he : e ∈ aR Z h) : ∀ k b, k < 2 → rwA (fadA Z h e x) k b = putR (ka (aL Z h) (va_up (aH Z) e x)) h (va_up (rwA Z) h (va_up (rwA Z h) (bk (aL Z h) (aH Z e)) ((rwA Z h (bk (aL Z h) (aH Z e))).filter (fun y => decide (y ≠ e))))) e k b := by
  intro k b hk
  have j2 := (hI.2.2.1 h hh).2.1
  have hni := del_notin j2.2.1 he
  have hag := up_ne_of (Hh := aH Z) (x := x) hni
  show bkL (ka (aL Z k) (va_up (aH Z) e x)) (va_up (aR Z) h _ k) b = _
  by_cases c : k = h
  · subst c
    rw [va_up_self]
    refine (putR_bk (heaOk_congr (heaOk_del j2 e) hag).1 (fun b => ?_) e b).symm
    rw [bkL_congr (ka_congr hag) b]
    exact (RS_que hI hh he k b).symm.trans (by show bkL (ka (aL Z k) (aH Z)) (va_up (aR Z) k _ k) b = _; rw [va_up_self])
  · rw [va_up_ne _ _ c, putR_ne _ _ c, va_up_ne _ _ c]
    refine bkL_congr (ka_congr (up_ne_of (fun q => ?_))) b
    have h1 := (((hI.2.2.1 k hk).1 e).mp q).2
    have h2 := (((hI.2.2.1 h hh).1 e).mp he).2
    omega
theorem rw_all {Z : va_AS} (hI : AI Z) {h : Nat} (hh : h < 2) : catR (rwA Z h) 11 = aR Z h := by
  obtain ⟨j1, j2, j3⟩ := hI.2.2.1 h hh
  exact catR_all j2.1 (heaOk_bk j2 j3)
theorem RS_rai {Z : va_AS} {h x : Nat} : ∀ k b, rwA (raiA Z h x) k b = mvR (ka x (aH Z)) h (va_up (rwA Z) h (fun _ => [])) (aR Z h) k b := by
  intro k b
  show bkL (ka (va_up (aL Z) h x k) (aH Z)) (va_up (aR Z) h _ k) b = _
  by_cases c : k = h
  · subst c
    rw [va_up_self, va_up_self]
    exact (mvR_bk (aR Z k) [] _ List.Pairwise.nil (fun b => by rw [va_up_self]; rfl) b).symm
  · rw [va_up_ne _ _ c, va_up_ne _ _ c, mvR_ne _ c, va_up_ne _ _ c]
    rfl
theorem RS_pou {Z : va_AS} (hI : AI Z) {h : Nat} (hh : h < 2) : ∀ k b, k < 2 → rwA (pouA Z h) k b = mvR (ka (aL Z (1 - h)) (aH Z)) (1 - h) (va_up (rwA Z) h (fun _ => [])) (aR Z h) k b := by
  intro k b hk
  have hne : 1 - h ≠ h := by omega
  show bkL (ka (va_up (aL Z) h 0 k) (aH Z)) (va_up (va_up (aR Z) (1 - h) _) h [] k) b = _
  by_cases c : k = h
  · subst c
    rw [va_up_self, va_up_self, mvR_ne _ (fun e => hne e.symm), va_up_self]
    rfl
  · have ek : k = 1 - h := by omega
    subst ek
    rw [va_up_ne _ _ hne, va_up_ne _ _ hne, va_up_self]
    exact (mvR_bk (aR Z h) (aR Z (1 - h)) _ (hI.2.2.1 (1 - h) hk).2.1.1 (fun b => by rw [va_up_ne _ _ hne]; rfl) b).symm
