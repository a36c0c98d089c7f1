/-! the state that both sides keep, and how each call changes it -/
def va_AS : Type := Nat × (Nat → Nat) × (Nat → Int) × (Nat → Nat) × (Nat → List Nat) × (Nat → Int) × (Nat → Int32) × (Nat → Int32) × Int32 × Int32
def rkIs (fr : Nat → Int32) (n : Nat) (av rk : Nat → Int) : Prop := (∀ i, i < 40 → fr i = iI (rk i) ∧ (rk i = 0 ∨ rk i = 1)) ∧ ∀ i, i < 40 → (n ≤ i ∨ av i ≠ -1) → rk i = 0
def MSt (A : va_AS) (G : Nat) (el : Int32) (fh fa fc gl : Nat → Int32) (cg : Int32) (fv fr gk : Nat → Int32) (mt qn : Int32) : Prop :=
  MS el fh fa fc gl cg A.1 A.2.1 A.2.2.1 A.2.2.2.1 A.2.2.2.2.1 G ∧ rkIs fr A.1 A.2.2.1 A.2.2.2.2.2.1 ∧ fv = A.2.2.2.2.2.2.1 ∧ gk = A.2.2.2.2.2.2.2.1 ∧ mt = A.2.2.2.2.2.2.2.2.1 ∧ qn = A.2.2.2.2.2.2.2.2.2
def AI (A : va_AS) : Prop := A.1 ≤ 40 ∧ (∀ i, i < A.1 → A.2.1 i < 1024 ∧ -1 ≤ A.2.2.1 i ∧ A.2.2.1 i ≤ 1) ∧ (∀ h, h < 2 → inH A.1 A.2.2.1 h (A.2.2.2.2.1 h) ∧ heaOk (A.2.2.2.1 h) A.2.1 (A.2.2.2.2.1 h) ∧ A.2.2.2.1 h < 1024) ∧ (∀ i, i < 40 → A.2.2.2.2.2.1 i = 0 ∨ A.2.2.2.2.2.1 i = 1) ∧ ∀ i, i < 40 → (A.1 ≤ i ∨ A.2.2.1 i ≠ -1) → A.2.2.2.2.2.1 i = 0
theorem MSt_AI {A : va_AS} {G : Nat} {el : Int32} {fh fa fc gl : Nat → Int32} {cg : Int32} {fv fr gk : Nat → Int32} {mt qn : Int32} (h : MSt A G el fh fa fc gl cg fv fr gk mt qn) : AI A := by
  obtain ⟨⟨cm, g, hg, hm⟩, hr, -⟩ := h
  have hk := fun h (hh : h < 2) => MSc_ok hm hh
  obtain ⟨h1, h2, h3, h4, h5, h6⟩ := hm
  exact ⟨h1.2.1, fun i hi => ⟨(h1.2.2 i hi).2, (h2 i hi).2⟩, fun h hh => ⟨(h6 h hh).1, (hk h hh).1, (hk h hh).2.1⟩, fun i hi => (hr.1 i hi).2, hr.2⟩
theorem MS_mono {el cg : Int32} {fh fa fc gl : Nat → Int32} {n G G2 : Nat} {Hh : Nat → Nat} {av : Nat → Int} {lo : Nat → Nat} {Ls : Nat → List Nat} (h : MS el fh fa fc gl cg n Hh av lo Ls G) (hG : G ≤ G2) : MS el fh fa fc gl cg n Hh av lo Ls G2 := by
  obtain ⟨cm, g, hg, hm⟩ := h
  exact ⟨cm, g, by omega, hm⟩
theorem MSt_mono {A : va_AS} {G G2 : Nat} {el : Int32} {fh fa fc gl : Nat → Int32} {cg : Int32} {fv fr gk : Nat → Int32} {mt qn : Int32} (h : MSt A G el fh fa fc gl cg fv fr gk mt qn) (hG : G ≤ G2) : MSt A G2 el fh fa fc gl cg fv fr gk mt qn := ⟨MS_mono h.1 hG, h.2⟩
def inB (v a b : Int) : Int := if a ≤ v ∧ v ≤ b then 1 else 0
theorem inB_c (v a b : Int) : (inB v a b = 1 ∧ a ≤ v ∧ v ≤ b) ∨ (inB v a b = 0 ∧ ¬ (a ≤ v ∧ v ≤ b)) := by
  unfold inB
  by_cases c : a ≤ v ∧ v ≤ b
  · rw [if_pos c]; exact Or.inl ⟨rfl, c⟩
  · rw [if_neg c]; exact Or.inr ⟨rfl, c⟩
/-- one comes newly, or anew, as the last -/
theorem MS_put {el el2 cg : Int32} {fh fh2 fa fc gl : Nat → Int32} {n n2 : Nat} {Hh Hg : Nat → Nat} {av : Nat → Int} {lo : Nat → Nat} {Ls : Nat → List Nat} {cm : Nat → Nat} {g : Nat} (hms : MSc el fh fa fc gl cg n Hh av lo Ls cm g) {h x : Nat} {v w cg2 : Int32} {L0 : List Nat} (hh : h < 2)
    (hn : n2 = n ∨ (n2 = n + 1 ∧ x = n)) (hx : x < n2) (he : embIs el2 fh2 n2 Hg) (hg : ∀ y, y ≠ x → Hg y = Hh y) (hs : L0.Sublist (Ls h)) (hm : ∀ y, y ∈ L0 ↔ y ∈ Ls h ∧ y ≠ x) (ho : ∀ k, k < 2 → k ≠ h → x ∉ Ls k) (hl : lo h ≤ Hg x) (hv : v = iI ↑h) (hw : w = cg) (hc : cg2 = cg + 1) (hgb : g < 1073741824) :
    MSc el2 fh2 (upd fa x v) (upd fc x w) gl cg2 n2 Hg (va_up av x ↑h) lo (va_up Ls h (ins (ka (lo h) Hg) L0 x)) (va_up cm x g) (g + 1) := by
  obtain ⟨h1, h2, h3, h4, h5, h6⟩ := hms
  have hlt : ∀ i, i < n2 → i ≠ x → i < n := fun i hi hne => by omega
  refine ⟨he, fun i hi => ?_, fun i hi => ?_, h4, by rw [hc, h5]; exact iI_n1 g, fun k hk => ?_⟩
  · by_cases c : i = x
    · subst c
      rw [upd_s, va_up_self]; exact ⟨hv, by omega⟩
    · rw [upd_n _ _ c, va_up_ne _ _ c]; exact h2 i (hlt i hi c)
  · by_cases c : i = x
    · subst c
      rw [upd_s, va_up_self]; exact ⟨hw.trans h5, by omega⟩
    · rw [upd_n _ _ c, va_up_ne _ _ c]; exact h3 i (hlt i hi c)
  · by_cases c : k = h
    · subst c
      obtain ⟨a1, a2, a3⟩ := h6 k hk
      rw [va_up_self]
      have hxL : x ∉ L0 := fun q => ((hm x).mp q).2 rfl
      have hne : ∀ y ∈ L0, y ≠ x := fun y q e => hxL (e ▸ q)
      have ho2 : ord (ka (lo k) Hg) cm L0 := ord_congr (ord_sub a2 hs) (fun y hy => by show bk (lo k) (Hg y) = bk (lo k) (Hh y); rw [hg y (hne y hy)]) (fun _ _ => rfl)
      refine ⟨fun y => ?_, ord_ins ho2 hxL (fun y hy => (a3 y (hs.subset hy)).1), fun y hy => ?_⟩
      · rw [ins_mem]
        by_cases d : y = x
        · subst d
          rw [va_up_self]
          exact ⟨fun _ => ⟨hx, rfl⟩, fun _ => Or.inl rfl⟩
        · rw [va_up_ne _ _ d, hm y]
          constructor
          · intro q
            have := (a1 y).mp (q.resolve_left d).1
            exact ⟨by omega, this.2⟩
          · intro q
            exact Or.inr ⟨(a1 y).mpr ⟨hlt y q.1 d, q.2⟩, d⟩
      · rcases ins_mem.mp hy with d | d
        · subst d
          rw [va_up_self]; exact ⟨by omega, hl⟩
        · have := a3 y (hs.subset d)
          rw [va_up_ne _ _ (hne y d), hg y (hne y d)]
          exact ⟨by omega, this.2⟩
    · rw [va_up_ne _ _ c]
      obtain ⟨b1, b2, b3⟩ := h6 k hk
      have hxk := ho k hk c
      have hne : ∀ y ∈ Ls k, y ≠ x := fun y q e => hxk (e ▸ q)
      refine ⟨fun y => ?_, ord_congr b2 (fun y hy => by show bk (lo k) (Hg y) = bk (lo k) (Hh y); rw [hg y (hne y hy)]) (fun y hy => va_up_ne _ _ (hne y hy)), fun y hy => ?_⟩
      · by_cases d : y = x
        · subst d
          rw [va_up_self]
          exact ⟨fun q => absurd q hxk, fun q => by have := q.2; omega⟩
        · rw [va_up_ne _ _ d, b1 y]
          constructor
          · intro q; exact ⟨by omega, q.2⟩
          · intro q; exact ⟨hlt y q.1 d, q.2⟩
      · have := b3 y hy
        rw [va_up_ne _ _ (hne y hy), hg y (hne y hy)]
        exact ⟨by omega, this.2⟩
def liC (n : Nat) (lo : Nat → Nat) (h x : Int) : Int := if 0 ≤ h ∧ h ≤ 1 then (if ↑(lo h.toNat) ≤ x ∧ x ≤ 1023 then (if n = 40 then 3 else 0) else 2) else 1
def lightA : va_AS → Int → Int → va_AS := fun (n, Hh, av, lo, Ls, rk, mv, gk, mt, qn) h x => if liC n lo h x = 0 then (n + 1, va_up Hh n x.toNat, va_up av n ↑h.toNat, lo, va_up Ls h.toNat (ins (ka (lo h.toNat) (va_up Hh n x.toNat)) (Ls h.toNat) n), rk, mv, gk, mt, qn) else (n, Hh, av, lo, Ls, rk, mv, gk, mt, qn)
def faC (n : Nat) (Hh : Nat → Nat) (av : Nat → Int) (lo : Nat → Nat) (e x : Int) : Int := if 0 ≤ e ∧ e < ↑n then (if av e.toNat = -1 then 2 else if ↑(lo (av e.toNat).toNat) ≤ x ∧ x < ↑(Hh e.toNat) then 0 else 3) else 1
def fadeA : va_AS → Int → Int → va_AS := fun (n, Hh, av, lo, Ls, rk, mv, gk, mt, qn) e x => if faC n Hh av lo e x = 0 then (n, va_up Hh e.toNat x.toNat, av, lo, va_up Ls (av e.toNat).toNat (ins (ka (lo (av e.toNat).toNat) (va_up Hh e.toNat x.toNat)) (del (Ls (av e.toNat).toNat) e.toNat) e.toNat), rk, mv, gk, mt, qn) else (n, Hh, av, lo, Ls, rk, mv, gk, mt, qn)
def quC (n : Nat) (av : Nat → Int) (e : Int) : Int := if 0 ≤ e ∧ e < ↑n then (if av e.toNat = -1 then 2 else 0) else 1
def quenchA : va_AS → Int → va_AS := fun (n, Hh, av, lo, Ls, rk, mv, gk, mt, qn) e => if quC n av e = 0 then (n, Hh, va_up av e.toNat (-1), lo, va_up Ls (av e.toNat).toNat (del (Ls (av e.toNat).toNat) e.toNat), rk, mv, gk, mt, qn + 1) else (n, Hh, av, lo, Ls, rk, mv, gk, mt, qn)
def raC (Ls : Nat → List Nat) (h : Int) : Int := if 0 ≤ h ∧ h ≤ 1 then (if Ls h.toNat = [] then 2 else 0) else 1
def rkX (lo : Nat → Nat) (Hh : Nat → Nat) (Ls : Nat → List Nat) (h : Nat) : Nat := (rkL (lo h) Hh (Ls h)).headD 0
def rakeA : va_AS → Int → va_AS := fun (n, Hh, av, lo, Ls, rk, mv, gk, mt, qn) h => if raC Ls h = 0 then (n, Hh, va_up av (rkX lo Hh Ls h.toNat) (-1), va_up lo h.toNat (rkLo (lo h.toNat) Hh (Ls h.toNat)), va_up Ls h.toNat (rkL (lo h.toNat) Hh (Ls h.toNat)).tail, va_up rk (rkX lo Hh Ls h.toNat) 1, mvA 1 mv (rkB (lo h.toNat) Hh (Ls h.toNat)), upd gk h.toNat (gk h.toNat + 1), mt + iI ↑(rkB (lo h.toNat) Hh (Ls h.toNat)).length, qn) else (n, Hh, av, lo, Ls, rk, mv, gk, mt, qn)
def rsC (Hh : Nat → Nat) (lo : Nat → Nat) (Ls : Nat → List Nat) (h x : Int) : Int := if 0 ≤ h ∧ h ≤ 1 then (if ↑(lo h.toNat) ≤ x ∧ x ≤ ↑(minL Hh (Ls h.toNat)) then 0 else 2) else 1
def rsV (lo : Nat → Nat) (Ls : Nat → List Nat) (h : Nat) (x : Int) : Int := if x = ↑(lo h) then 0 else ↑(Ls h).length
def raiseA : va_AS → Int → Int → va_AS := fun (n, Hh, av, lo, Ls, rk, mv, gk, mt, qn) h x => if rsC Hh lo Ls h x = 0 then (n, Hh, av, va_up lo h.toNat x.toNat, va_up Ls h.toNat (if x = ↑(lo h.toNat) then Ls h.toNat else insA (ka x.toNat Hh) [] (Ls h.toNat)), rk, (if x = ↑(lo h.toNat) then mv else mvA 1 mv (Ls h.toNat)), gk, mt + iI (rsV lo Ls h.toNat x), qn) else (n, Hh, av, lo, Ls, rk, mv, gk, mt, qn)
def poC (Hh : Nat → Nat) (lo : Nat → Nat) (Ls : Nat → List Nat) (h : Int) : Int := if 0 ≤ h ∧ h ≤ 1 then (if Ls h.toNat = [] ∨ lo (1 - h.toNat) ≤ minL Hh (Ls h.toNat) then 0 else 2) else 1
def pourA : va_AS → Int → va_AS := fun (n, Hh, av, lo, Ls, rk, mv, gk, mt, qn) h => if poC Hh lo Ls h = 0 then (n, Hh, avM av (1 - h.toNat) (Ls h.toNat), va_up lo h.toNat 0, va_up (va_up Ls (1 - h.toNat) (insA (ka (lo (1 - h.toNat)) Hh) (Ls (1 - h.toNat)) (Ls h.toNat))) h.toNat [], rk, mvA 1 mv (Ls h.toNat), gk, mt + iI ↑(Ls h.toNat).length, qn) else (n, Hh, av, lo, Ls, rk, mv, gk, mt, qn)
theorem rkIs_out {fr : Nat → Int32} {n x : Nat} {av rk : Nat → Int} (h : rkIs fr n av rk) (hx : x < n) : rkIs (upd fr x (iI 1)) n (va_up av x (-1)) (va_up rk x 1) := by
  refine ⟨fun i hi => ?_, fun i hi hc => ?_⟩
  · by_cases c : i = x
    · subst c
      rw [upd_s, va_up_self]; exact ⟨rfl, Or.inr rfl⟩
    · rw [upd_n _ _ c, va_up_ne _ _ c]; exact h.1 i hi
  · by_cases c : i = x
    · subst c
      rw [va_up_self] at hc
      rcases hc with q | q
      · omega
      · exact absurd rfl q
    · rw [va_up_ne _ _ c] at hc ⊢; exact h.2 i hi hc
theorem rkIs_avM {fr : Nat → Int32} {n k : Nat} {av rk : Nat → Int} {B : List Nat} (h : rkIs fr n av rk) (hB : ∀ y ∈ B, av y ≠ -1) : rkIs fr n (avM av k B) rk := by
  refine ⟨h.1, fun i hi hc => ?_⟩
  by_cases c : i ∈ B
  · exact h.2 i hi (Or.inr (hB i c))
  · rw [avM_out c] at hc; exact h.2 i hi hc
