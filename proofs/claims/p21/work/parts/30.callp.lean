/-! calls over worlds in parts -/
section CP
variable {p : Program} {l : Launch} {e : Env} {R : Room} {s : State} {m : MethodId} {args : Array Value} {below : List Frame} {meth : Method} {c : Code} {H : Heap} {locs : List Loc} {cells slots : Nat} {Q : State → Prop}
variable {cc : ByteArray} {pc : Nat} {ls : Array Slot} {rest st0 : List Value} {D : va_G} {A0 : Nat → Prop} {a : Array Value} {ws wc wr : va_W} {H0 : Heap} {mc ms : Nat}

theorem cp_i {S : Type} {w1 ws2 : S → va_W} {post : Int32 → S → Prop} (hr : va_Run p l e R s m args below meth c H locs cells slots mc ms (F0 m pc ls st0) rest (va_Qi post (fun (u : S) t => wPost D (va_A wc H.size) (w1 u) t) (va_A wc H.size) a) (va_A wc H.size)) (hS : va_S A0 H0 H locs) (hP : va_P D vwCl ws H) (hD : va_D A0 ws) (hA : ∀ q, H0.size ≤ q → A0 q) (hC : ws.Perm (wr ++ wc)) (hB : ∀ u, (wr ++ w1 u).Perm (ws2 u))
    (kk : ∀ (r : Int32) (u : S) (H1 : Heap) (locs1 : List Loc), post r u → va_P D vwCl (ws2 u) H1 → va_D A0 (ws2 u) → va_S A0 H0 H1 locs1 → W p l e R s m args below meth c H1 locs1 (cells + mc) (slots + ms) Q (F0 m (pc + 3) ls (.int r :: rest))) : W p l e R s m args below meth c H locs cells slots Q (F0 m pc ls st0) := by
  have hF := pm_free hD hS hA hC
  refine va_calli hr hS (fun q _ h => hF q h) hF (fun r u t H1 locs1 ht _ hp hB9 _ hk h3 => by
    obtain ⟨hP1, hD1⟩ := hB9
    rw [ht] at hP1
    obtain ⟨k1, k2⟩ := pm_join (pm_P hP hC) (pm_D hD hC) hk hF hP1 hD1
    exact kk r u H1 locs1 hp (pm_P k1 (hB u)) (pm_D k2 (hB u)) h3)
theorem cp_l {S : Type} {w1 ws2 : S → va_W} {post : Int64 → S → Prop} (hr : va_Run p l e R s m args below meth c H locs cells slots mc ms (F0 m pc ls st0) rest (va_Ql post (fun (u : S) t => wPost D (va_A wc H.size) (w1 u) t) (va_A wc H.size) a) (va_A wc H.size)) (hS : va_S A0 H0 H locs) (hP : va_P D vwCl ws H) (hD : va_D A0 ws) (hA : ∀ q, H0.size ≤ q → A0 q) (hC : ws.Perm (wr ++ wc)) (hB : ∀ u, (wr ++ w1 u).Perm (ws2 u))
    (kk : ∀ (r : Int64) (u : S) (H1 : Heap) (locs1 : List Loc), post r u → va_P D vwCl (ws2 u) H1 → va_D A0 (ws2 u) → va_S A0 H0 H1 locs1 → W p l e R s m args below meth c H1 locs1 (cells + mc) (slots + ms) Q (F0 m (pc + 3) ls (.long r :: rest))) : W p l e R s m args below meth c H locs cells slots Q (F0 m pc ls st0) := by
  have hF := pm_free hD hS hA hC
  refine va_calll hr hS (fun q _ h => hF q h) hF (fun r u t H1 locs1 ht _ hp hB9 _ hk h3 => by
    obtain ⟨hP1, hD1⟩ := hB9
    rw [ht] at hP1
    obtain ⟨k1, k2⟩ := pm_join (pm_P hP hC) (pm_D hD hC) hk hF hP1 hD1
    exact kk r u H1 locs1 hp (pm_P k1 (hB u)) (pm_D k2 (hB u)) h3)
theorem cp_r {S : Type} {w1 ws2 : S → va_W} {post : Nat → S → Prop} (hr : va_Run p l e R s m args below meth c H locs cells slots mc ms (F0 m pc ls st0) rest (va_Qr (fun (u : S) => True) (fun u x t => post x u ∧ wPost D (va_A wc H.size) (w1 u) t) (va_A wc H.size) a) (va_A wc H.size)) (hS : va_S A0 H0 H locs) (hP : va_P D vwCl ws H) (hD : va_D A0 ws) (hA : ∀ q, H0.size ≤ q → A0 q) (hC : ws.Perm (wr ++ wc)) (hB : ∀ u, (wr ++ w1 u).Perm (ws2 u))
    (kk : ∀ (r : Nat) (u : S) (H1 : Heap) (locs1 : List Loc), post r u → va_P D vwCl (ws2 u) H1 → va_D A0 (ws2 u) → va_S A0 H0 H1 locs1 → W p l e R s m args below meth c H1 locs1 (cells + mc) (slots + ms) Q (F0 m (pc + 3) ls (.ref r :: rest))) : W p l e R s m args below meth c H locs cells slots Q (F0 m pc ls st0) := by
  have hF := pm_free hD hS hA hC
  refine va_callr hr hS (fun q _ h => hF q h) hF (fun u r t H1 locs1 ht _ _ hB9 _ hk h3 => by
    obtain ⟨hp, hB9⟩ := hB9
    obtain ⟨hP1, hD1⟩ := hB9
    rw [ht] at hP1
    obtain ⟨k1, k2⟩ := pm_join (pm_P hP hC) (pm_D hD hC) hk hF hP1 hD1
    exact kk r u H1 locs1 hp (pm_P k1 (hB u)) (pm_D k2 (hB u)) h3)
theorem cp_v {S : Type} {w1 ws2 : S → va_W} {post : S → Prop} (hr : va_Run p l e R s m args below meth c H locs cells slots mc ms (F0 m pc ls st0) rest (va_Qv post (fun (u : S) t => wPost D (va_A wc H.size) (w1 u) t) (va_A wc H.size) a) (va_A wc H.size)) (hS : va_S A0 H0 H locs) (hP : va_P D vwCl ws H) (hD : va_D A0 ws) (hA : ∀ q, H0.size ≤ q → A0 q) (hC : ws.Perm (wr ++ wc)) (hB : ∀ u, (wr ++ w1 u).Perm (ws2 u))
    (kk : ∀ (u : S) (H1 : Heap) (locs1 : List Loc), post u → va_P D vwCl (ws2 u) H1 → va_D A0 (ws2 u) → va_S A0 H0 H1 locs1 → W p l e R s m args below meth c H1 locs1 (cells + mc) (slots + ms) Q (F0 m (pc + 3) ls rest)) : W p l e R s m args below meth c H locs cells slots Q (F0 m pc ls st0) := by
  have hF := pm_free hD hS hA hC
  refine va_callv hr hS (fun q _ h => hF q h) hF (fun u t H1 locs1 ht _ hp hB9 _ hk h3 => by
    obtain ⟨hP1, hD1⟩ := hB9
    rw [ht] at hP1
    obtain ⟨k1, k2⟩ := pm_join (pm_P hP hC) (pm_D hD hC) hk hF hP1 hD1
    exact kk u H1 locs1 hp (pm_P k1 (hB u)) (pm_D k2 (hB u)) h3)
end CP
theorem va_uu {α : Type} (f : Nat → α) (k : Nat) (x y : α) : va_up (va_up f k x) k y = va_up f k y := by
  funext j
  by_cases c : j = k
  · subst c
    rw [va_up_self, va_up_self]
  · rw [va_up_ne _ _ c, va_up_ne _ _ c, va_up_ne _ _ c]
