/-! the law: its script, its answers -/
theorem gSW {own : String} {i : Nat} {y : MethodName} {c : ByteArray} {n : Nat} {r : Option FieldType} {hh : List (Nat × Nat × Nat × Nat)} (h1 : Cond.methodLink own i y ∈ lw_G) (h2 : Cond.static y ∈ lw_G) (h4 : Cond.initialized y.cls ∈ lw_G) (h5 : Cond.codeWith y c n r hh ∈ lw_G) : GoodIn lw_G (va_wsS own i y (wh_ y c n r hh)) := by
  intro w hw
  simp only [va_wsS, List.mem_append, List.mem_cons, List.not_mem_nil, or_false] at hw
  rcases hw with (e | e | e) | (e | e)
  · rw [e]; exact gIn h1
  · rw [e]; exact gIn h2
  · rw [e]; exact gIn h4
  · rw [e]; exact gIn h5
  · exact gIn e
section LAWR
variable {p : Program} {l : Launch} {e : Env} {R : Room} {s : State} {m : MethodId} {args : Array Value} {below : List Frame} {meth : Method} {c : Code} {H : Heap} {locs : List Loc} {cells slots : Nat} {Q : State → Prop}
variable {cc : ByteArray} {pc : Nat} {ls : Array Slot} {rest : List Value} {D : va_G} {cl : List vw_C} {A : Nat → Prop} {a : Nat} {tys : List (ClassId × FieldType)} {ws : va_W} {H0 : Heap}
theorem lz_sld (hexec : p.tables.exec = Jvm.exec) (hb : c.code = cc) {b L : Nat} {xs : Nat → Int32} (hX : va_X b L xs s H0) (hbl : b < H0.size) (hbA : ¬ A b) (hS : va_S A H0 H locs) {i : Int32} {z : Int} (hi : i = iI z) (k : Nat) (hk : z = (k : Int)) (hlt : k < L) (hn : L < 2147483648) (hdg : decode cc pc = .ok (.iaload, 1))
    (kk : ∀ x : Int32, x = xs k → W p l e R s m args below meth c H locs cells slots Q (F0 m (pc + 1) ls (.int x :: rest))) : W p l e R s m args below meth c H locs cells slots Q (F0 m pc ls (.int i :: .ref b :: rest)) := by
  subst hi
  refine va_sld hexec hb hX hbl hbA hS (iI_in k hk hlt hn) hdg ?_
  rw [iI_cl k hk (by omega)]
  exact kk _ rfl
theorem lz_lald (hexec : p.tables.exec = Jvm.exec) (hb : c.code = cc) (hK : va_K D cl tys s) (hP : va_P D cl ws H) (q0 t0 : Nat) {cA : ClassId} {n : Nat} {f : Nat → Int64} (ha : ws[q0]? = some (a, .inl (cA, n, .inr (.inl f)))) (ht : tys[t0]? = some (cA, .long)) {i : Int32} {z : Int} (hi : i = iI z) (k : Nat) (hk : z = (k : Int)) (hlt : k < n) (hn : n < 2147483648) (hdg : decode cc pc = .ok (.laload, 1))
    (kk : ∀ x : Int64, x = f k → W p l e R s m args below meth c H locs cells slots Q (F0 m (pc + 1) ls (.long x :: rest))) : W p l e R s m args below meth c H locs cells slots Q (F0 m pc ls (.int i :: .ref a :: rest)) := by
  subst hi
  refine va_lald hexec hb hK hP q0 t0 ha ht (iI_in k hk hlt hn) hdg ?_
  rw [iI_cl k hk (by omega)]
  exact kk _ rfl
end LAWR
theorem cd_if {q : Prop} [Decidable q] {a b : Int} (ha : 0 ≤ a ∧ a ≤ 3) (hb : 0 ≤ b ∧ b ≤ 3) : 0 ≤ (if q then a else b) ∧ (if q then a else b) ≤ 3 := by
  by_cases c : q
  · rw [if_pos c]; exact ha
  · rw [if_neg c]; exact hb
theorem c0 : (0 : Int) ≤ 0 ∧ (0 : Int) ≤ 3 := by decide
theorem c1 : (0 : Int) ≤ 1 ∧ (1 : Int) ≤ 3 := by decide
theorem c2 : (0 : Int) ≤ 2 ∧ (2 : Int) ≤ 3 := by decide
theorem c3 : (0 : Int) ≤ 3 ∧ (3 : Int) ≤ 3 := by decide
theorem cd_li (n : Nat) (lo : Nat → Nat) (h x : Int) : 0 ≤ liC n lo h x ∧ liC n lo h x ≤ 3 := cd_if (cd_if (cd_if c3 c0) c2) c1
theorem cd_fa (n : Nat) (Hh : Nat → Nat) (av : Nat → Int) (lo : Nat → Nat) (e x : Int) : 0 ≤ faC n Hh av lo e x ∧ faC n Hh av lo e x ≤ 3 := cd_if (cd_if c2 (cd_if c0 c3)) c1
theorem cd_qu (n : Nat) (av : Nat → Int) (e : Int) : 0 ≤ quC n av e ∧ quC n av e ≤ 3 := cd_if (cd_if c2 c0) c1
theorem cd_ra (Ls : Nat → List Nat) (h : Int) : 0 ≤ raC Ls h ∧ raC Ls h ≤ 3 := cd_if (cd_if c2 c0) c1
theorem cd_rs (Hh lo : Nat → Nat) (Ls : Nat → List Nat) (h x : Int) : 0 ≤ rsC Hh lo Ls h x ∧ rsC Hh lo Ls h x ≤ 3 := cd_if (cd_if c0 c2) c1
theorem cd_po (Hh lo : Nat → Nat) (Ls : Nat → List Nat) (h : Int) : 0 ≤ poC Hh lo Ls h ∧ poC Hh lo Ls h ≤ 3 := cd_if (cd_if c0 c2) c1
theorem cd_ma (h b : Int) : 0 ≤ maC h b ∧ maC h b ≤ 3 := cd_if (cd_if c0 c1) c1
theorem cd_ls (Hh lo : Nat → Nat) (Ls : Nat → List Nat) (h b k : Int) : 0 ≤ lsC Hh lo Ls h b k ∧ lsC Hh lo Ls h b k ≤ 3 := cd_if (cd_if (cd_if c0 c1) c1) c1
theorem cd_bo (lo : Nat → Nat) (h x : Int) : 0 ≤ boC lo h x ∧ boC lo h x ≤ 3 := cd_if (cd_if c0 c2) c1
theorem cd_ab (h w : Int) : 0 ≤ abC h w ∧ abC h w ≤ 3 := cd_if (cd_if c0 c1) c1
theorem cd_to (n : Nat) (e w : Int) : 0 ≤ toC n e w ∧ toC n e w ≤ 3 := cd_if (cd_if c0 c1) c1
theorem cd_co (w : Int) : 0 ≤ coC w ∧ coC w ≤ 3 := cd_if c0 c1
theorem cd_nx (Ls : Nat → List Nat) (h k : Int) : 0 ≤ nxC Ls h k ∧ nxC Ls h k ≤ 3 := cd_if (cd_if c0 c1) c1
theorem cd_mv (Ls : Nat → List Nat) (h k : Int) : 0 ≤ mvC Ls h k ∧ mvC Ls h k ≤ 3 := cd_if (cd_if c0 c2) c1
theorem cd_hg (h : Int) : 0 ≤ hgC h ∧ hgC h ≤ 3 := cd_if c0 c1
theorem lg_same (x : Int64) : lg_cmp x x = iI 0 := by
  unfold lg_cmp
  first | rfl | simp
  try rfl
