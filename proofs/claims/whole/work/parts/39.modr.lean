/-! what is asked, and what is answered -/
theorem bkL_take {κ : Nat → Nat} {L : List Nat} (h : srt κ L) (b : Nat) : bkL κ L b = (L.drop (psum (cnt κ L) b)).take (cnt κ L b) := by
  have h1 := (srt_take b h).2
  rw [← psum_cnt] at h1
  have hs : srt κ (L.drop (psum (cnt κ L) b)) := List.Pairwise.sublist (List.drop_sublist _ _) h
  have h2 := (srt_take (b + 1) hs).1
  have e : (L.drop (psum (cnt κ L) b)).filter (fun x => decide (κ x < b + 1)) = bkL κ L b := by
    rw [h1, List.filter_filter]
    unfold bkL
    apply List.filter_congr
    intro x _
    rw [Bool.eq_iff_iff]
    simp only [Bool.and_eq_true, decide_eq_true_eq, Bool.not_eq_true', decide_eq_false_iff_not, beq_iff_eq]
    omega
  have e2 : (L.drop (psum (cnt κ L) b)).countP (fun x => decide (κ x < b + 1)) = cnt κ L b := by
    rw [List.countP_eq_length_filter, e, bkL_len]
  rw [e2, e] at h2
  exact h2.symm
theorem bkL_getD {κ : Nat → Nat} {L : List Nat} (h : srt κ L) {b k : Nat} (hk : k < cnt κ L b) : (bkL κ L b).getD k 0 = L.getD (psum (cnt κ L) b + k) 0 := by
  rw [bkL_take h, getD_take hk, getD_drop]
def maC (h b : Int) : Int := if 0 ≤ h ∧ h ≤ 1 then (if 0 ≤ b ∧ b ≤ 10 then 0 else 1) else 1
def lsC (Hh lo : Nat → Nat) (Ls : Nat → List Nat) (h b k : Int) : Int := if 0 ≤ h ∧ h ≤ 1 then (if 0 ≤ b ∧ b ≤ 10 then (if 0 ≤ k ∧ k < ↑(cnt (ka (lo h.toNat) Hh) (Ls h.toNat) b.toNat) then 0 else 1) else 1) else 1
def boC (lo : Nat → Nat) (h x : Int) : Int := if 0 ≤ h ∧ h ≤ 1 then (if ↑(lo h.toNat) ≤ x ∧ x ≤ 1023 then 0 else 2) else 1
def abC (h w : Int) : Int := if 0 ≤ h ∧ h ≤ 1 then (if 0 ≤ w ∧ w ≤ 5 then 0 else 1) else 1
def toC (n : Nat) (e w : Int) : Int := if 0 ≤ e ∧ e < ↑n then (if 0 ≤ w ∧ w ≤ 4 then 0 else 1) else 1
def coC (w : Int) : Int := if 0 ≤ w ∧ w ≤ 4 then 0 else 1
def nxC (Ls : Nat → List Nat) (h k : Int) : Int := if 0 ≤ h ∧ h ≤ 1 then (if 0 ≤ k ∧ k < ↑(Ls h.toNat).length then 0 else 1) else 1
def mvC (Ls : Nat → List Nat) (h k : Int) : Int := if 0 ≤ h ∧ h ≤ 1 then (if 0 ≤ k ∧ k ≤ ↑(Ls h.toNat).length then 0 else 2) else 1
def hgC (h : Int) : Int := if 0 ≤ h ∧ h ≤ 1 then 0 else 1
theorem upd5 (f : Nat → Int32) (a b c d e : Int32) {w : Int} (hw : 0 ≤ w ∧ w < 5) : upd (upd (upd (upd (upd f 0 a) 1 b) 2 c) 3 d) 4 e w.toNat = if w = 0 then a else if w = 1 then b else if w = 2 then c else if w = 3 then d else e := by
  rcases (show w = 0 ∨ w = 1 ∨ w = 2 ∨ w = 3 ∨ w = 4 by omega) with rfl | rfl | rfl | rfl | rfl <;> rfl
