theorem ne_in {L : List Nat} {a q : Nat} (ha : a ∈ L) (hq : q ∉ L) : a ≠ q := fun z => hq (by rw [← z]; exact ha)
theorem SimP_init {cI cJ cK : ClassId} {Hh : Nat → Nat} {mv : Nat → Int32} {rv : Nat → Int} {L : List Nat} {f : Nat → va_E} {a1 a2 a3 a4 q0 q1 : Nat} {r0 r1 : Nat → Nat} {g3 g4 g5 g6 : Nat → Option Nat}
    (e1 : a1 ∈ L) (f1 : f a1 = .inl (cI, 2, .inl (fun _ => 0))) (e2 : a2 ∈ L) (f2 : f a2 = .inl (cI, 2, .inl (fun _ => 0))) (e3 : a3 ∈ L) (f3 : f a3 = .inl (cK, 2, .inr (.inr (.inr (.inr g3))))) (g30 : g3 0 = some q0) (g31 : g3 1 = some q1) (e4 : a4 ∈ L) (f4 : f a4 = .inl (cJ, 0, .inr (.inr (.inr (.inr g4)))))
    (e5 : q0 ∈ L) (f5 : f q0 = .inl (cJ, 11, .inr (.inr (.inr (.inr g5))))) (e6 : q1 ∈ L) (f6 : f q1 = .inl (cJ, 11, .inr (.inr (.inr (.inr g6)))))
    (h12 : a1 ≠ a2) (h13 : a1 ≠ a3) (h14 : a1 ≠ a4) (h15 : a1 ≠ q0) (h16 : a1 ≠ q1) (h23 : a2 ≠ a3) (h24 : a2 ≠ a4) (h25 : a2 ≠ q0) (h26 : a2 ≠ q1) (h34 : a3 ≠ a4) (h35 : a3 ≠ q0) (h36 : a3 ≠ q1) (h54 : q0 ≠ a4) (h64 : q1 ≠ a4) (h56 : q0 ≠ q1)
    (hr0 : ∀ i, i < 11 → g5 i = some (r0 i) ∧ r0 i ∈ L ∧ (∃ g : Nat → Int32, f (r0 i) = .inl (cI, 0, .inl g)) ∧ a1 ≠ r0 i ∧ a2 ≠ r0 i ∧ a3 ≠ r0 i ∧ r0 i ≠ a4 ∧ r0 i ≠ q0 ∧ r0 i ≠ q1)
    (hr1 : ∀ i, i < 11 → g6 i = some (r1 i) ∧ r1 i ∈ L ∧ (∃ g : Nat → Int32, f (r1 i) = .inl (cI, 0, .inl g)) ∧ a1 ≠ r1 i ∧ a2 ≠ r1 i ∧ a3 ≠ r1 i ∧ r1 i ≠ a4 ∧ q0 ≠ r1 i ∧ r1 i ≠ q1) :
    SimP cI cJ cK 0 Hh mv rv (fun _ => 0) (fun _ => 0) (fun _ _ => []) a1 a2 a3 a4 L f := by
  refine ⟨fun a => if a = a1 then 1 else if a = a2 then 2 else if a = a3 then 3 else if a = a4 then 4 else if a = q0 then 5 else if a = q1 then 6 else 0, fun h => if h = 0 then q0 else q1, fun _ => 0, fun h b => if h = 0 then r0 b else r1 b, ⟨e1, if_pos rfl, _, f1, fun _ _ => rfl⟩, ⟨e2, ?_, _, f2, fun _ _ => rfl⟩, ⟨e3, ?_, _, f3, fun h hh => ?_⟩, ⟨e4, ?_, _, f4, fun e he => absurd he (Nat.not_lt_zero e)⟩, fun h hh => ?_, fun h b hh hb => ?_, fun e he => absurd he (Nat.not_lt_zero e)⟩
  · simp only [h12.symm, if_true, if_false]
  · simp only [h13.symm, h23.symm, if_true, if_false]
  · rcases (show h = 0 ∨ h = 1 by omega) with rfl | rfl
    · exact g30
    · exact g31
  · simp only [h14.symm, h24.symm, h34.symm, if_true, if_false]
  · rcases (show h = 0 ∨ h = 1 by omega) with rfl | rfl
    · refine ⟨e5, ?_, g5, f5, fun b hb => (hr0 b hb).1⟩
      show (if q0 = a1 then 1 else if q0 = a2 then 2 else if q0 = a3 then 3 else if q0 = a4 then 4 else if q0 = q0 then 5 else if q0 = q1 then 6 else 0) = 5 + 0
      simp only [h15.symm, h25.symm, h35.symm, h54, if_true, if_false]
    · refine ⟨e6, ?_, g6, f6, fun b hb => (hr1 b hb).1⟩
      show (if q1 = a1 then 1 else if q1 = a2 then 2 else if q1 = a3 then 3 else if q1 = a4 then 4 else if q1 = q0 then 5 else if q1 = q1 then 6 else 0) = 5 + 1
      simp only [h16.symm, h26.symm, h36.symm, h64, h56.symm, if_true, if_false]
  · rcases (show h = 0 ∨ h = 1 by omega) with rfl | rfl
    · obtain ⟨-, w1, ⟨g, w2⟩, w3, w4, w5, w6, w7, w8⟩ := hr0 b hb
      refine ⟨w1, ?_, g, w2, fun i hi => absurd hi (Nat.not_lt_zero i)⟩
      show (if r0 b = a1 then 1 else if r0 b = a2 then 2 else if r0 b = a3 then 3 else if r0 b = a4 then 4 else if r0 b = q0 then 5 else if r0 b = q1 then 6 else 0) = 0
      simp only [w3.symm, w4.symm, w5.symm, w6, w7, w8, if_false]
    · obtain ⟨-, w1, ⟨g, w2⟩, w3, w4, w5, w6, w7, w8⟩ := hr1 b hb
      refine ⟨w1, ?_, g, w2, fun i hi => absurd hi (Nat.not_lt_zero i)⟩
      show (if r1 b = a1 then 1 else if r1 b = a2 then 2 else if r1 b = a3 then 3 else if r1 b = a4 then 4 else if r1 b = q0 then 5 else if r1 b = q1 then 6 else 0) = 0
      simp only [w3.symm, w4.symm, w5.symm, w6, w7.symm, w8, if_false]
