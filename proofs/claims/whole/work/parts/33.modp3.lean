/-! the reference's state, and what moving leaves of it -/
def MSc (el : Int32) (fh fa fc gl : Nat → Int32) (cg : Int32) (n : Nat) (Hh : Nat → Nat) (av : Nat → Int) (lo : Nat → Nat) (Ls : Nat → List Nat) (cm : Nat → Nat) (g : Nat) : Prop := embIs el fh n Hh ∧ atIs fa n av ∧ caIs fc n cm ∧ lowIs gl lo ∧ cg = iI ↑g ∧ ∀ h, h < 2 → inH n av h (Ls h) ∧ ord (ka (lo h) Hh) cm (Ls h) ∧ ∀ x ∈ Ls h, cm x < g ∧ lo h ≤ Hh x
def MS (el : Int32) (fh fa fc gl : Nat → Int32) (cg : Int32) (n : Nat) (Hh : Nat → Nat) (av : Nat → Int) (lo : Nat → Nat) (Ls : Nat → List Nat) (G : Nat) : Prop := ∃ (cm : Nat → Nat) (g : Nat), g ≤ G ∧ MSc el fh fa fc gl cg n Hh av lo Ls cm g
section MSL
variable {el cg : Int32} {fh fa fc gl : Nat → Int32} {n : Nat} {Hh : Nat → Nat} {av : Nat → Int} {lo : Nat → Nat} {Ls : Nat → List Nat} {cm : Nat → Nat} {g : Nat}
theorem MSc_ok (hms : MSc el fh fa fc gl cg n Hh av lo Ls cm g) {h : Nat} (hh : h < 2) : heaOk (lo h) Hh (Ls h) ∧ lo h < 1024 ∧ (∀ x ∈ Ls h, x < n) ∧ (Ls h).length ≤ 40 := by
  obtain ⟨h1, h2, h3, h4, h5, h6⟩ := hms
  obtain ⟨a1, a2, a3⟩ := h6 h hh
  have hn : ∀ x ∈ Ls h, x < n := fun x hx => ((a1 x).mp hx).1
  have := inH_nodup_len (ord_nodup a2) hn
  have h40 := h1.2.1
  exact ⟨⟨ord_srt a2, ord_nodup a2, fun x hx => ⟨(a3 x hx).2, (h1.2.2 x (hn x hx)).2⟩⟩, (h4 h hh).2, hn, by omega⟩
theorem lowIs_up (h : lowIs gl lo) {k t : Nat} {v : Int32} (ht : t < 1024) (hv : v = iI ↑t) : lowIs (upd gl k v) (va_up lo k t) := by
  intro i hi
  by_cases c : i = k
  · subst c
    rw [upd_s, va_up_self]; exact ⟨hv, ht⟩
  · rw [upd_n _ _ c, va_up_ne _ _ c]; exact h i hi
theorem inH_two {h k : Nat} {L M : List Nat} (hL : inH n av h L) (hM : inH n av k M) (hne : h ≠ k) : ∀ x, x ∈ L → x ∉ M := by
  intro x h1 h2
  have a := ((hL x).mp h1).2
  have b := ((hM x).mp h2).2
  omega
/-- the low of a hearth rises: those of B come anew, the others stay as they are -/
theorem MS_spread (hms : MSc el fh fa fc gl cg n Hh av lo Ls cm g) {h lo2 : Nat} {L0 B : List Nat} {v : Int32} (hh : h < 2) (hlo : lo2 < 1024) (hv : v = iI ↑lo2) (hg : g + 40 ≤ 1073741824) (hp : ∀ x, x ∈ Ls h ↔ x ∈ L0 ∨ x ∈ B) (hB : B.Nodup) (hd : ∀ x ∈ B, x ∉ L0) (hor : ord (ka lo2 Hh) cm L0) (hle : ∀ x ∈ Ls h, lo2 ≤ Hh x) :
    MSc el fh (homesA fa (iI ↑h) B) (camI fc g B B.length) (upd gl h v) (iI ↑(g + B.length)) n Hh av (va_up lo h lo2) (va_up Ls h (insA (ka lo2 Hh) L0 B)) (cmI cm g B B.length) (g + B.length) := by
  obtain ⟨-, -, hLn, hL4⟩ := MSc_ok hms hh
  obtain ⟨h1, h2, h3, h4, h5, h6⟩ := hms
  obtain ⟨a1, a2, a3⟩ := h6 h hh
  have hBl : B.length ≤ 40 := by
    have := inH_nodup_len hB (fun x hx => hLn x ((hp x).mpr (Or.inr hx)))
    have := h1.2.1
    omega
  have hK := cmI_ord (κ := ka lo2 Hh) (cm := cm) (L := L0) (B := B) (g := g) hor (fun y hy => (a3 y ((hp y).mpr (Or.inl hy))).1) hB hd B.length (Nat.le_refl _)
  rw [take_all (Nat.le_refl _)] at hK
  refine ⟨h1, ?_, camI_is h3 (by omega) _ (Nat.le_refl _), lowIs_up h4 hlo hv, rfl, fun k hk => ?_⟩
  · have := homesA_is (B := B) h2 hh B.length (Nat.le_refl _)
    rw [take_all (Nat.le_refl _)] at this
    intro i hi
    have e : avM av h B i = av i := by
      by_cases c : i ∈ B
      · rw [avM_in c]; exact ((a1 i).mp ((hp i).mpr (Or.inr c))).2.symm
      · exact avM_out c
    rw [← e]
    exact this i hi
  · by_cases c : k = h
    · subst c
      rw [va_up_self, va_up_self]
      refine ⟨fun x => ?_, hK.1, fun x hx => ⟨hK.2 x hx, hle x ((hp x).mpr (insA_mem.mp hx))⟩⟩
      rw [insA_mem, ← hp x]
      exact a1 x
    · rw [va_up_ne _ _ c, va_up_ne _ _ c]
      obtain ⟨b1, b2, b3⟩ := h6 k hk
      have hout : ∀ x ∈ Ls k, cmI cm g B B.length x = cm x := fun x hx => cmI_out (fun q => inH_two b1 a1 c x hx ((hp x).mpr (Or.inr q))) _ (Nat.le_refl _)
      refine ⟨b1, ord_congr b2 (fun _ _ => rfl) hout, fun x hx => ?_⟩
      rw [hout x hx]
      have := b3 x hx
      exact ⟨by omega, this.2⟩
/-- all of a hearth come into the other one -/
theorem MS_pour (hms : MSc el fh fa fc gl cg n Hh av lo Ls cm g) {h k : Nat} {v : Int32} (hh : h < 2) (hk : k < 2) (hne : k ≠ h) (hv : v = iI 0) (hg : g + 40 ≤ 1073741824) (hle : ∀ x ∈ Ls h, lo k ≤ Hh x) :
    MSc el fh (homesA fa (iI ↑k) (Ls h)) (camI fc g (Ls h) (Ls h).length) (upd gl h v) (iI ↑(g + (Ls h).length)) n Hh (avM av k (Ls h)) (va_up lo h 0) (va_up (va_up Ls k (insA (ka (lo k) Hh) (Ls k) (Ls h))) h []) (cmI cm g (Ls h) (Ls h).length) (g + (Ls h).length) := by
  obtain ⟨-, -, hLn, hL4⟩ := MSc_ok hms hh
  obtain ⟨h1, h2, h3, h4, h5, h6⟩ := hms
  obtain ⟨a1, a2, a3⟩ := h6 h hh
  obtain ⟨b1, b2, b3⟩ := h6 k hk
  have hdis := inH_two a1 b1 (Ne.symm hne)
  have hK := cmI_ord (κ := ka (lo k) Hh) (cm := cm) (L := Ls k) (B := Ls h) (g := g) b2 (fun y hy => (b3 y hy).1) (ord_nodup a2) hdis (Ls h).length (Nat.le_refl _)
  rw [take_all (Nat.le_refl _)] at hK
  refine ⟨h1, ?_, camI_is h3 (by omega) _ (Nat.le_refl _), lowIs_up h4 (by omega) hv, rfl, fun j hj => ?_⟩
  · have := homesA_is (B := Ls h) h2 hk (Ls h).length (Nat.le_refl _)
    rw [take_all (Nat.le_refl _)] at this
    exact this
  · by_cases c : j = h
    · subst c
      rw [va_up_self, va_up_self]
      refine ⟨fun x => ⟨fun q => (by cases q), fun q => ?_⟩, List.Pairwise.nil, fun x hx => (by cases hx)⟩
      exfalso
      by_cases d : x ∈ Ls j
      · rw [avM_in d] at q
        have := q.2
        omega
      · rw [avM_out d] at q
        exact d ((a1 x).mpr q)
    · have ej : j = k := by omega
      subst ej
      rw [va_up_ne _ _ c, va_up_ne _ _ c, va_up_self]
      refine ⟨fun x => ?_, hK.1, fun x hx => ⟨hK.2 x hx, ?_⟩⟩
      · rw [insA_mem]
        by_cases d : x ∈ Ls h
        · rw [avM_in d]
          exact ⟨fun _ => ⟨hLn x d, rfl⟩, fun _ => Or.inr d⟩
        · rw [avM_out d, ← b1 x]
          exact ⟨fun q => q.resolve_right d, Or.inl⟩
      · rcases insA_mem.mp hx with q | q
        · exact (b3 x q).2
        · exact hle x q
/-- one goes out -/
theorem MS_out (hms : MSc el fh fa fc gl cg n Hh av lo Ls cm g) {h x : Nat} {L2 : List Nat} {v : Int32} (hh : h < 2) (hx : x ∈ Ls h) (hv : v = iI (-1)) (hs : L2.Sublist (Ls h)) (hm : ∀ y, y ∈ L2 ↔ y ∈ Ls h ∧ y ≠ x) : MSc el fh (upd fa x v) fc gl cg n Hh (va_up av x (-1)) lo (va_up Ls h L2) cm g := by
  obtain ⟨h1, h2, h3, h4, h5, h6⟩ := hms
  obtain ⟨a1, a2, a3⟩ := h6 h hh
  refine ⟨h1, fun i hi => ?_, h3, h4, h5, fun k hk => ?_⟩
  · by_cases c : i = x
    · subst c
      rw [upd_s, va_up_self]; exact ⟨hv, by omega⟩
    · rw [upd_n _ _ c, va_up_ne _ _ c]; exact h2 i hi
  · by_cases c : k = h
    · subst c
      rw [va_up_self]
      refine ⟨fun y => ?_, ord_sub a2 hs, fun y hy => a3 y (hs.subset hy)⟩
      rw [hm y]
      by_cases d : y = x
      · subst d
        rw [va_up_self]
        exact ⟨fun q => absurd rfl q.2, fun q => by have := q.2; omega⟩
      · rw [va_up_ne _ _ d, ← a1 y]
        exact ⟨fun q => q.1, fun q => ⟨q, d⟩⟩
    · rw [va_up_ne _ _ c]
      obtain ⟨b1, b2, b3⟩ := h6 k hk
      refine ⟨fun y => ?_, b2, b3⟩
      by_cases d : y = x
      · subst d
        rw [va_up_self]
        exact ⟨fun q => absurd hx (inH_two b1 a1 c y q), fun q => by have := q.2; omega⟩
      · rw [va_up_ne _ _ d]; exact b1 y
theorem MS_like {fh2 fa2 fc2 gl2 : Nat → Int32} {G : Nat} (hms : MS el fh fa fc gl cg n Hh av lo Ls G) (e1 : ∀ i, i < 40 → fh2 i = fh i) (e2 : ∀ i, i < 40 → fa2 i = fa i) (e3 : ∀ i, i < 40 → fc2 i = fc i) (e4 : ∀ i, i < 2 → gl2 i = gl i) : MS el fh2 fa2 fc2 gl2 cg n Hh av lo Ls G := by
  obtain ⟨cm, g, hg, h1, h2, h3, h4, h5, h6⟩ := hms
  have hn := h1.2.1
  exact ⟨cm, g, hg, ⟨h1.1, hn, fun i hi => by rw [e1 i (by omega)]; exact h1.2.2 i hi⟩, fun i hi => by rw [e2 i (by omega)]; exact h2 i hi, fun i hi => by rw [e3 i (by omega)]; exact h3 i hi, fun i hi => by rw [e4 i hi]; exact h4 i hi, h5, h6⟩
end MSL
theorem bkL_rk {lo : Nat} {Hh : Nat → Nat} {L : List Nat} (h : heaOk lo Hh L) (hne : L ≠ []) : bkL (ka lo Hh) L (rkF lo Hh L) = L.take (rkM lo Hh L) := by
  unfold rkM
  rw [psum_cnt, (srt_take _ h.1).1]
  unfold bkL
  apply List.filter_congr
  intro x hx
  have := (rk_head h hne).2 x hx
  rw [Bool.eq_iff_iff]
  simp only [beq_iff_eq, decide_eq_true_eq]
  omega
theorem rkL_head0 {lo : Nat} {Hh : Nat → Nat} {L : List Nat} (h : heaOk lo Hh L) (hne : L ≠ []) : ka (rkLo lo Hh L) Hh ((rkL lo Hh L).headD 0) = 0 := by
  have h1 := rkL_ok h hne
  have hne2 : rkL lo Hh L ≠ [] := fun q => by have := (rkL_ne h hne).1; rw [q] at this; simp at this
  by_cases c : rkF lo Hh L = 0
  · have e1 : rkL lo Hh L = L := if_pos c
    have e2 : rkLo lo Hh L = lo := if_pos c
    rw [e1, e2]
    exact c
  · obtain ⟨x, hx, e⟩ := minL_in (Hh := Hh) hne (fun x hx => (h.2.2 x hx).2)
    have e2 : rkLo lo Hh L = minL Hh L := if_neg c
    have hk : ka (rkLo lo Hh L) Hh x = 0 := by
      rw [e2]
      exact bk_0.mpr e.symm
    have := (rk_head h1 hne2).2 x ((rkL_perm h).mem_iff.mpr hx)
    unfold rkF at this
    omega
theorem bkL_first {κ : Nat → Nat} {L : List Nat} (hne : L ≠ []) (h : κ (L.headD 0) = 0) : 0 < (bkL κ L 0).length ∧ (bkL κ L 0).getD 0 0 = L.headD 0 := by
  cases L with
  | nil => exact absurd rfl hne
  | cons y T =>
    have h : κ y = 0 := h
    have e : bkL κ (y :: T) 0 = y :: bkL κ T 0 := by
      unfold bkL
      rw [List.filter_cons_of_pos (by simp [h])]
    rw [e]
    exact ⟨by simp, rfl⟩
theorem tail_mem {L : List Nat} (hn : L.Nodup) (y : Nat) : y ∈ L.tail ↔ y ∈ L ∧ y ≠ L.headD 0 ∨ (L = [] ∧ False) := by
  cases L with
  | nil => simp
  | cons z T =>
    obtain ⟨h1, h2⟩ := List.nodup_cons.mp hn
    show y ∈ T ↔ (y ∈ z :: T ∧ y ≠ z) ∨ _
    rw [List.mem_cons]
    constructor
    · intro q
      exact Or.inl ⟨Or.inr q, fun e => h1 (e ▸ q)⟩
    · rintro (⟨q | q, e⟩ | ⟨q, -⟩)
      · exact absurd q e
      · exact q
      · cases q
theorem i32_ss (a b : Int32) : a + b - a = b := by
  rw [Int32.add_comm]
  exact Int32.add_sub_cancel b a
/-- who is where when raked so often -/
def rkV (av : Nat → Int) (lo : Nat) (Hh : Nat → Nat) (L : List Nat) : Nat → Nat → Int
  | 0 => av
  | k + 1 => va_up (rkV av lo Hh L k) ((rkL (rkI lo Hh L k).1 Hh (rkI lo Hh L k).2).headD 0) (-1)
theorem va_up_same {α : Type} (f : Nat → α) (k : Nat) : va_up f k (f k) = f := by
  funext j
  by_cases c : j = k
  · subst c; exact va_up_self _ _ _
  · exact va_up_ne _ _ c
theorem rk_disj {L : List Nat} {m : Nat} (hn : L.Nodup) : ∀ x ∈ L.take m, x ∉ L.drop m := by
  intro x h1 h2
  have h3 := hn
  rw [← List.take_append_drop m L] at h3
  exact (List.pairwise_append.mp h3).2.2 x h1 x h2 rfl
theorem rk_ord {lo : Nat} {Hh : Nat → Nat} {L : List Nat} {cm : Nat → Nat} (h : heaOk lo Hh L) (hne : L ≠ []) (ho : ord (ka lo Hh) cm L) : ord (ka (minL Hh L) Hh) cm (L.drop (rkM lo Hh L)) :=
  ord_congr (ord_sub ho (List.drop_sublist _ _)) (rk_stay h hne) (fun _ _ => rfl)
