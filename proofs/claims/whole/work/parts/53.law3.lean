theorem add_mid (a b c : Int32) : a + b + c = a + c + b := by
  rw [Int32.add_assoc, Int32.add_comm b c, ← Int32.add_assoc]
theorem homesA_at (v : Int32) (fo : Nat → Int32) (j : Nat) : ∀ i (B : List Nat), i ≤ B.length → homesA fo v (B.take i) j = if j ∈ B.take i then v else fo j
  | 0, B, _ => by simp [homesA]
  | i + 1, B, hi => by
    rw [homesA_take _ _ _ (show i < B.length by omega), take_s (B := B) (i := i) (by omega)]
    by_cases c : j = B.getD i 0
    · rw [c, upd_s, if_pos (List.mem_append_right _ List.mem_cons_self)]
    · rw [upd_n _ _ c, homesA_at v fo j i B (by omega)]
      by_cases d : j ∈ B.take i
      · rw [if_pos d, if_pos (List.mem_append_left _ d)]
      · rw [if_neg d, if_neg (fun q => by rcases List.mem_append.mp q with q | q; exact d q; exact c (List.mem_singleton.mp q))]
theorem home_all {fo fo2 : Nat → Int32} {n k : Nat} {av : Nat → Int} {B : List Nat} {a : Int} (h : ∀ i, i < n → fo i = iI (av i)) (e : fo2 = homesA fo (iI a) B) (ha : a = (↑k : Int) := by rfl) : ∀ i, i < n → fo2 i = iI (avM av k B i) := by
  intro i hi
  have h1 := homesA_at (iI a) fo i B.length B (Nat.le_refl _)
  rw [take_all (Nat.le_refl _)] at h1
  rw [e, h1]
  by_cases c : i ∈ B
  · rw [if_pos c, avM_in c, ha]
  · rw [if_neg c, avM_out c]
    exact h i hi
theorem two_len {n : Nat} {av : Nat → Int} {L M : List Nat} (h0 : inH n av 0 L) (h1 : inH n av 1 M) (n0 : L.Nodup) (n1 : M.Nodup) : L.length + M.length ≤ n := by
  have hd : ∀ x ∈ L, x ∉ M := inH_two h0 h1 (by decide)
  have hn : (L ++ M).Nodup := List.nodup_append.mpr ⟨n0, n1, fun x hx y hy e => hd x hx (e ▸ hy)⟩
  have := inH_nodup_len hn (fun x hx => by rcases List.mem_append.mp hx with q | q; exact ((h0 x).mp q).1; exact ((h1 x).mp q).1)
  rw [List.length_append] at this
  exact this
