/-! the reference's cells and what they hold -/
def lowIs (gl : Nat → Int32) (lo : Nat → Nat) : Prop := ∀ i, i < 2 → gl i = iI ↑(lo i) ∧ lo i < 1024
def atIs (fa : Nat → Int32) (n : Nat) (av : Nat → Int) : Prop := ∀ i, i < n → fa i = iI (av i) ∧ -1 ≤ av i ∧ av i ≤ 1
def caIs (fc : Nat → Int32) (n : Nat) (cm : Nat → Nat) : Prop := ∀ i, i < n → fc i = iI ↑(cm i) ∧ cm i < 1073741824
def inH (n : Nat) (av : Nat → Int) (h : Nat) (L : List Nat) : Prop := ∀ x, x ∈ L ↔ x < n ∧ av x = (↑h : Int)
def rwIs (rw0 : Nat → Int32) (B : List Nat) : Prop := ∀ j, j < B.length → rw0 j = iI ↑(B.getD j 0)
def bkB (lo : Nat → Nat) (a : Int) (h : Nat) : Int := if a = -1 then -1 else ↑(bk (lo a.toNat) h)
theorem bkB_A {lo : Nat → Nat} {a : Int} {h : Nat} (ha : -1 ≤ a ∧ a ≤ 1) : bkB lo a h = bkA a (lo 0) (lo 1) h := by
  rcases (show a = -1 ∨ a = 0 ∨ a = 1 by omega) with q | q | q <;> subst q <;> rfl
theorem bkB_at {lo : Nat → Nat} {a : Int} {h k : Nat} (ha : a = (↑k : Int)) : bkB lo a h = ↑(bk (lo k) h) := by
  subst ha
  unfold bkB
  rw [if_neg (by omega)]; rfl
theorem bkB_rg {lo : Nat → Nat} {a : Int} {h : Nat} (ha : -1 ≤ a ∧ a ≤ 1) (hlo : ∀ i, i < 2 → lo i < 1024) (hh : h < 1024) : -1 ≤ bkB lo a h ∧ bkB lo a h ≤ 10 := by
  unfold bkB
  by_cases c : a = -1
  · rw [if_pos c]; omega
  · rw [if_neg c]
    have := bk_le10 (hlo a.toNat (by omega)) hh
    omega
theorem low_at {gl : Nat → Int32} {lo : Nat → Nat} (h : lowIs gl lo) {a : Int} (ha : -1 ≤ a ∧ a ≤ 1) (hn : a ≠ -1) : gl a.toNat = iI ↑(lo a.toNat) ∧ lo a.toNat < 1024 := h _ (by omega)
/-- a row in which one is being put at its place: those behind it are one further -/
def shIs (rw0 : Nat → Int32) (Y : List Nat) (k : Nat) : Prop := (∀ j, j < k → rw0 j = iI ↑(Y.getD j 0)) ∧ ∀ j, k < j → j ≤ Y.length → rw0 j = iI ↑(Y.getD (j - 1) 0)
theorem shIs_0 {rw0 : Nat → Int32} {Y : List Nat} (h : rwIs rw0 Y) : shIs rw0 Y Y.length := ⟨h, fun j h1 h2 => by omega⟩
theorem shIs_s {rw0 g : Nat → Int32} {Y : List Nat} {k : Nat} {x : Int32} (h : shIs rw0 Y k) (hk : k ≤ Y.length) (h0 : 0 < k) (e : g = upd rw0 k x) (hx : x = rw0 (k - 1)) : shIs g Y (k - 1) := by
  obtain ⟨h1, h2⟩ := h
  refine ⟨fun j hj => ?_, fun j hj hl => ?_⟩
  · rw [e, upd_n _ _ (by omega)]
    exact h1 j (by omega)
  · rw [e]
    by_cases c : j = k
    · subst c
      rw [upd_s, hx, h1 (j - 1) (by omega)]
    · rw [upd_n _ _ c]
      exact h2 j (by omega) hl
theorem shIs_end {rw0 g : Nat → Int32} {Y M : List Nat} {k x : Nat} {v : Int32} (h : shIs rw0 Y k) (hk : k ≤ Y.length) (e : g = upd rw0 k v) (hv : v = iI ↑x) (hM : Y.take k ++ x :: Y.drop k = M) : rwIs g M := by
  obtain ⟨h1, h2⟩ := h
  subst hM
  have hlen : (Y.take k ++ x :: Y.drop k).length = Y.length + 1 := by simp; omega
  have ht : (Y.take k).length = k := by simp; omega
  intro j hj
  rw [hlen] at hj
  rw [e]
  by_cases c1 : j < k
  · rw [upd_n _ _ (by omega), getD_app_l (by omega), getD_take c1]
    exact h1 j c1
  · rw [getD_app_r (by omega), ht]
    by_cases c2 : j = k
    · subst c2
      rw [upd_s, Nat.sub_self, hv]; rfl
    · rw [upd_n _ _ c2, h2 j (by omega) (by omega)]
      obtain ⟨i, rfl⟩ : ∃ i, j = k + 1 + i := ⟨j - k - 1, by omega⟩
      rw [show k + 1 + i - k = i + 1 by omega, List.getD_cons_succ, getD_drop]
      rw [show k + 1 + i - 1 = k + i by omega]
/-- the arrays behind a moving -/
def camI (fc : Nat → Int32) (g : Nat) (B : List Nat) : Nat → Nat → Int32
  | 0 => fc
  | i + 1 => upd (camI fc g B i) (B.getD i 0) (iI ↑(g + i))
theorem camI_is {fc : Nat → Int32} {n g : Nat} {cm : Nat → Nat} {B : List Nat} (h : caIs fc n cm) (hg : g + B.length ≤ 1073741824) : ∀ i, i ≤ B.length → caIs (camI fc g B i) n (cmI cm g B i)
  | 0, _ => h
  | i + 1, hi => by
    have ih := camI_is h hg i (by omega)
    intro j hj
    show upd (camI fc g B i) (B.getD i 0) (iI ↑(g + i)) j = iI ↑(va_up (cmI cm g B i) (B.getD i 0) (g + i) j) ∧ va_up (cmI cm g B i) (B.getD i 0) (g + i) j < 1073741824
    by_cases c : j = B.getD i 0
    · rw [c, upd_s, va_up_self]; exact ⟨rfl, by omega⟩
    · rw [upd_n _ _ c, va_up_ne _ _ c]; exact ih j hj
def avM (av : Nat → Int) (h : Nat) (B : List Nat) (x : Nat) : Int := if x ∈ B then (↑h : Int) else av x
theorem avM_in {av : Nat → Int} {h : Nat} {B : List Nat} {x : Nat} (c : x ∈ B) : avM av h B x = ↑h := if_pos c
theorem avM_out {av : Nat → Int} {h : Nat} {B : List Nat} {x : Nat} (c : x ∉ B) : avM av h B x = av x := if_neg c
theorem take_s {B : List Nat} {i : Nat} (h : i < B.length) : B.take (i + 1) = B.take i ++ [B.getD i 0] := by
  rw [List.take_add_one, List.getElem?_eq_getElem h, List.getD_eq_getElem?_getD, List.getElem?_eq_getElem h]; rfl
theorem homesA_is {fa : Nat → Int32} {n : Nat} {av : Nat → Int} {h : Nat} {B : List Nat} (ha : atIs fa n av) (hh : h < 2) : ∀ i, i ≤ B.length → atIs (homesA fa (iI ↑h) (B.take i)) n (avM av h (B.take i))
  | 0, _ => by
    intro j hj
    have e : avM av h (B.take 0) j = av j := avM_out (by simp)
    rw [e]
    exact ha j hj
  | i + 1, hi => by
    have ih := homesA_is (B := B) ha hh i (by omega)
    intro j hj
    rw [homesA_take _ _ _ (show i < B.length by omega)]
    have e := take_s (B := B) (i := i) (by omega)
    by_cases c : j = B.getD i 0
    · have e2 : avM av h (B.take (i + 1)) j = ↑h := avM_in (by rw [e, c]; exact List.mem_append_right _ List.mem_cons_self)
      rw [e2, c, upd_s]
      exact ⟨rfl, by omega⟩
    · rw [upd_n _ _ c]
      have h1 := ih j hj
      have e2 : avM av h (B.take (i + 1)) j = avM av h (B.take i) j := by
        by_cases d : j ∈ B.take i
        · rw [avM_in d, avM_in (by rw [e]; exact List.mem_append_left _ d)]
        · rw [avM_out d, avM_out (by rw [e]; intro q; rcases List.mem_append.mp q with q | q; exact d q; exact c (List.mem_singleton.mp q))]
      rw [e2]
      exact h1
theorem inH_nodup_len {L : List Nat} {n : Nat} (hn : L.Nodup) (h : ∀ x ∈ L, x < n) : L.length ≤ n := by
  have h1 : fl L n = L := fl_all h
  have key : ∀ i, (fl L i).length ≤ i := by
    intro i
    induction i with
    | zero => rw [fl_0]; exact Nat.le_refl _
    | succ i ih =>
      by_cases c : i ∈ L
      · rw [fl_in_len hn c]; omega
      · rw [fl_out c]; omega
  rw [← h1]
  exact key n
theorem bkB_ka {lo Hh : Nat → Nat} {a : Int} {i k : Nat} (ha : a = (↑k : Int)) : bkB lo a (Hh i) = ↑(ka (lo k) Hh i) := bkB_at ha
