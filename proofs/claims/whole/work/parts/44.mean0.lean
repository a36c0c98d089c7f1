/-! the mean: what draws -/
theorem va_unb {p : Program} {l : Launch} {e : Env} {R : Room} {s : State} {m : MethodId} {args : Array Value} {below : List Frame} {meth : Method} {c : Code} {H : Heap} {locs : List Loc} {cells slots : Nat} {Q : State → Prop} {g : JFrame} (k : W p l e R s m args below meth c H locs cells slots Q g) : W p l e R (s.setDrawn s.drawn) m args below meth c H locs cells slots Q g := k
theorem sumF (Hh : Nat → Nat) : ∀ (L : List Nat) (a : Nat), L.foldl (fun a x => a + Hh x) a = a + sumL Hh L
  | [], a => rfl
  | y :: T, a => by
    show T.foldl (fun a x => a + Hh x) (a + Hh y) = a + T.foldl (fun a x => a + Hh x) (0 + Hh y)
    rw [sumF Hh T, sumF Hh T (0 + Hh y)]
    omega
theorem sumL_cons (Hh : Nat → Nat) (y : Nat) (T : List Nat) : sumL Hh (y :: T) = Hh y + sumL Hh T := by
  show T.foldl (fun a x => a + Hh x) (0 + Hh y) = _
  rw [sumF]
  omega
theorem sumL_app (Hh : Nat → Nat) (A B : List Nat) : sumL Hh (A ++ B) = sumL Hh A + sumL Hh B := by
  show (A ++ B).foldl (fun a x => a + Hh x) 0 = _
  rw [List.foldl_append]
  exact sumF Hh B _
theorem sumL_in {Hh : Nat → Nat} {L : List Nat} {i : Nat} (hn : L.Nodup) (hi : i ∈ L) : sumL Hh (fl L (i + 1)) = sumL Hh (fl L i) + Hh i := by
  obtain ⟨p9, -, -, -, h4⟩ := fl_split (R := fun _ _ => True) (hn.imp_of_mem (fun _ _ _ => trivial)) hn hi
  have h5 := sumL_app Hh ((fl L i).take p9) ((fl L i).drop p9)
  rw [List.take_append_drop] at h5
  rw [← h4, sumL_app, sumL_cons, h5]
  omega
def meP (S N : Nat) (r : UInt64) : Prop := (N = 0 → r = FP.dconst0) ∧ (N ≠ 0 → alike64 r (FP.ddiv (FP.i2d (iI ↑S)) (FP.i2d (iI ↑N))) = true)
