/-! buckets of rows that change -/
theorem bkL_congr {κ μ : Nat → Nat} {L : List Nat} (h : ∀ x ∈ L, μ x = κ x) (b : Nat) : bkL μ L b = bkL κ L b := by
  unfold bkL
  apply List.filter_congr
  intro x hx
  rw [h x hx]
theorem bkL_mem {κ : Nat → Nat} {L : List Nat} {b x : Nat} : x ∈ bkL κ L b ↔ x ∈ L ∧ κ x = b := by
  unfold bkL
  rw [List.mem_filter]
  simp
theorem bkL_ins {κ : Nat → Nat} {L : List Nat} (h : srt κ L) (x b : Nat) : bkL κ (ins κ L x) b = if b = κ x then bkL κ L b ++ [x] else bkL κ L b := by
  rw [ins_eq h]
  unfold bkL
  rw [List.filter_append, List.filter_cons, ff_, ff_]
  by_cases c : b = κ x
  · subst c
    have e1 : L.filter (fun y => (κ y == κ x) && decide (κ y < κ x + 1)) = L.filter (fun y => κ y == κ x) := List.filter_congr (fun y _ => by by_cases d : κ y = κ x <;> simp [d])
    have e2 : L.filter (fun y => (κ y == κ x) && !decide (κ y < κ x + 1)) = [] := by
      rw [List.filter_eq_nil_iff]
      intro y _
      by_cases d : κ y = κ x <;> simp [d]
    rw [if_pos rfl, if_pos (by simp), e1, e2]
  · rw [if_neg c, if_neg (by simpa using fun e => c e.symm)]
    rcases Nat.lt_or_ge b (κ x + 1) with d | d
    · have e1 : L.filter (fun y => (κ y == b) && decide (κ y < κ x + 1)) = L.filter (fun y => κ y == b) := List.filter_congr (fun y _ => by
        by_cases g : κ y = b
        · simp [g, d]
        · simp [g])
      have e2 : L.filter (fun y => (κ y == b) && !decide (κ y < κ x + 1)) = [] := by
        rw [List.filter_eq_nil_iff]
        intro y _
        by_cases g : κ y = b
        · simp [g, d]
        · simp [g]
      rw [e1, e2, List.append_nil]
    · have e1 : L.filter (fun y => (κ y == b) && decide (κ y < κ x + 1)) = [] := by
        rw [List.filter_eq_nil_iff]
        intro y _
        by_cases g : κ y = b
        · simp [g]; omega
        · simp [g]
      have e2 : L.filter (fun y => (κ y == b) && !decide (κ y < κ x + 1)) = L.filter (fun y => κ y == b) := List.filter_congr (fun y _ => by
        by_cases g : κ y = b
        · simp [g]; omega
        · simp [g])
      rw [e1, e2, List.nil_append]
theorem putR_bk {κ : Nat → Nat} {L : List Nat} (h : srt κ L) {R : Nat → Nat → List Nat} {k : Nat} (hR : ∀ b, R k b = bkL κ L b) (x b : Nat) : putR κ k R x k b = bkL κ (ins κ L x) b := by
  unfold putR
  rw [va_up_self, bkL_ins h]
  by_cases c : b = κ x
  · subst c
    rw [va_up_self, if_pos rfl, hR]
  · rw [va_up_ne _ _ c, if_neg c, hR]
theorem putR_ne (κ : Nat → Nat) (R : Nat → Nat → List Nat) {k j : Nat} (h : j ≠ k) (x : Nat) : putR κ k R x j = R j := va_up_ne _ _ h
theorem mvR_bk {κ : Nat → Nat} {k : Nat} : ∀ (B L : List Nat) (R : Nat → Nat → List Nat), srt κ L → (∀ b, R k b = bkL κ L b) → ∀ b, mvR κ k R B k b = bkL κ (insA κ L B) b
  | [], L, R, _, hR, b => hR b
  | x :: B, L, R, h, hR, b => mvR_bk B (ins κ L x) (putR κ k R x) (ins_srt h x) (fun b => putR_bk h hR x b) b
theorem mvR_ne (κ : Nat → Nat) {k j : Nat} (h : j ≠ k) : ∀ (B : List Nat) (R : Nat → Nat → List Nat), mvR κ k R B j = R j
  | [], R => rfl
  | x :: B, R => (mvR_ne κ h B (putR κ k R x)).trans (putR_ne κ R h x)
theorem del_flt {L : List Nat} {x : Nat} (hn : L.Nodup) (hx : x ∈ L) : del L x = L.filter (fun y => decide (y ≠ x)) := by
  induction L with
  | nil => cases hx
  | cons y T ih =>
    obtain ⟨h1, h2⟩ := List.nodup_cons.mp hn
    by_cases c : y = x
    · subst c
      rw [del_head, List.filter_cons_of_neg (by simp)]
      refine (List.filter_eq_self.mpr (fun z hz => ?_)).symm
      have : z ≠ y := fun e => h1 (e ▸ hz)
      simpa using this
    · have hx2 : x ∈ T := (List.mem_cons.mp hx).resolve_left (fun e => c e.symm)
      rw [List.filter_cons_of_pos (by simpa using c), ← ih h2 hx2]
      unfold del
      rw [List.idxOf_cons, show (y == x) = false by simpa using c]
      rfl
theorem bkL_del {κ : Nat → Nat} {L : List Nat} {x : Nat} (hn : L.Nodup) (hx : x ∈ L) (b : Nat) : bkL κ (del L x) b = if b = κ x then (bkL κ L b).filter (fun y => decide (y ≠ x)) else bkL κ L b := by
  rw [del_flt hn hx]
  have e : bkL κ (L.filter (fun y => decide (y ≠ x))) b = (bkL κ L b).filter (fun y => decide (y ≠ x)) := by
    unfold bkL
    rw [ff_, ff_]
    apply List.filter_congr
    intro y _
    rw [Bool.and_comm]
  rw [e]
  by_cases c : b = κ x
  · rw [if_pos c]
  · rw [if_neg c, List.filter_eq_self]
    intro y hy
    have h1 := (bkL_mem.mp hy).2
    have : y ≠ x := fun z => c (by rw [← h1, z])
    simpa using this
theorem catR_bk {κ : Nat → Nat} {L : List Nat} (h : srt κ L) : ∀ b, catR (bkL κ L) b = L.take (psum (cnt κ L) b)
  | 0 => by
    show [] = L.take 0
    rw [List.take_zero]
  | b + 1 => by
    show catR (bkL κ L) b ++ bkL κ L b = L.take (psum (cnt κ L) b + cnt κ L b)
    rw [catR_bk h b, bkL_take h, List.take_add]
theorem catR_all {κ : Nat → Nat} {L : List Nat} (h : srt κ L) (hk : ∀ x ∈ L, κ x < 11) : catR (bkL κ L) 11 = L := by
  rw [catR_bk h, psum_all hk]
  exact List.take_length
theorem heaOk_bk {lo : Nat} {Hh : Nat → Nat} {L : List Nat} (h : heaOk lo Hh L) (hlo : lo < 1024) : ∀ x ∈ L, ka lo Hh x < 11 := fun x hx => Nat.lt_succ_of_le (bk_le10 hlo (h.2.2 x hx).2)
theorem catR_congr {T U : Nat → List Nat} : ∀ b, (∀ j, j < b → T j = U j) → catR T b = catR U b
  | 0, _ => rfl
  | b + 1, h => by
    show catR T b ++ T b = catR U b ++ U b
    rw [catR_congr b (fun j hj => h j (by omega)), h b (by omega)]
theorem SimP.cg {cI cJ cK : ClassId} {n : Nat} {Hh Hh2 : Nat → Nat} {mv mv2 : Nat → Int32} {rv rv2 : Nat → Int} {lo lo2 : Nat → Nat} {gk gk2 : Nat → Int32} {R R2 : Nat → Nat → List Nat} {lw rk hs em : Nat} {L : List Nat} {f : Nat → va_E} (h : SimP cI cJ cK n Hh mv rv lo gk R lw rk hs em L f) (h1 : ∀ e, e < n → Hh2 e = Hh e ∧ mv2 e = mv e ∧ rv2 e = rv e) (h2 : ∀ k, k < 2 → lo2 k = lo k ∧ gk2 k = gk k) (h3 : ∀ k b, k < 2 → b < 11 → R2 k b = R k b) : SimP cI cJ cK n Hh2 mv2 rv2 lo2 gk2 R2 lw rk hs em L f := by
  obtain ⟨K, ha, ea, r, ⟨a1, a2, g1, a3, a4⟩, ⟨b1, b2, g2, b3, b4⟩, c9, d9, h5, h6, h7⟩ := h
  refine ⟨K, ha, ea, r, ⟨a1, a2, g1, a3, fun k hk => by rw [(h2 k hk).1]; exact a4 k hk⟩, ⟨b1, b2, g2, b3, fun k hk => by rw [(h2 k hk).2]; exact b4 k hk⟩, c9, d9, h5, fun k b hk hb => by rw [h3 k b hk hb]; exact h6 k b hk hb, fun e he => ?_⟩
  obtain ⟨e1, e2, g, e3, e4, e5, e6⟩ := h7 e he
  obtain ⟨q1, q2, q3⟩ := h1 e he
  exact ⟨e1, e2, g, e3, by rw [q1]; exact e4, by rw [q2]; exact e5, by rw [q3]; exact e6⟩
