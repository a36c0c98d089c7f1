/-! what the law's entry stands on -/
theorem ks_arr {args : Array Value} {s : State} {ty : FieldType} (hty : ∀ C, ty ≠ .object C) (h : (Cond.arrayClass ty).before args s = true) : ∃ cA : ClassId, ArrOfT s cA ty ∧ va_RA s cA ty := by
  obtain ⟨cA, kA, comp, h1, h2, h3⟩ := Cond.arrayClass_spec h
  refine ⟨cA, fun n z => ⟨fun k h => (by cases h), kA, h2, comp, h3⟩, ?_⟩
  cases ty <;> first | exact absurd rfl (hty _) | exact h1
theorem ks_K {args : Array Value} {s : State} (hts : ∀ w ∈ lw_G, w.before args s = true) : ∃ (D : va_G) (cI cZ cJ : ClassId), va_K D vwCl (KT cI cZ cJ) s := by
  obtain ⟨c0, f0, k0⟩ := u_known (T := TX0) (N := 5) hts iX0 (hts _ qw43)
  obtain ⟨c1, f1, k1⟩ := u_known (T := TX1) (N := 8) hts iX1 (hts _ qw67)
  obtain ⟨c2, f2, k2⟩ := u_known (T := TX2) (N := 2) hts iX2 (hts _ qw73)
  obtain ⟨c3, f3, k3⟩ := u_known (T := TX3) (N := 5) hts iX3 (hts _ qw35)
  obtain ⟨c4, f4, k4⟩ := u_known (T := TX4) (N := 12) hts iX4 (hts _ qw589)
  obtain ⟨c5, f5, k5⟩ := u_known (T := TX5) (N := 4) hts iX5 (hts _ qw583)
  obtain ⟨cI, aI, rI⟩ := ks_arr (by intro C h; cases h) (hts _ qw64)
  obtain ⟨cZ, aZ, rZ⟩ := ks_arr (by intro C h; cases h) (hts _ qw65)
  obtain ⟨cJ, aJ, rJ⟩ := ks_arr (by intro C h; cases h) (hts _ qw844)
  refine ⟨(fun k => [c0, c1, c2, c3, c4, c5].getD k c0, fun k => [f0, f1, f2, f3, f4, f5].getD k f0), cI, cZ, cJ, fun c q hq => ?_, fun k q hk => ?_⟩
  · rcases c with _ | _ | _ | _ | _ | _ | c
    · cases hq; exact k0
    · cases hq; exact k1
    · cases hq; exact k2
    · cases hq; exact k3
    · cases hq; exact k4
    · cases hq; exact k5
    · exact absurd hq (by simp)
  · rcases k with _ | _ | _ | k
    · cases hk; exact ⟨aI, rI⟩
    · cases hk; exact ⟨aZ, rZ⟩
    · cases hk; exact ⟨aJ, rJ⟩
    · exact absurd hk (by simp)
theorem ks_St : ∀ q ∈ lw_St, Cond.stringRef RX3 q.1 q.2 ∈ lw_tbl := by decide +kernel
theorem ks_T {args : Array Value} {s : State} {cX : ClassId} (hX : s.vm.findClass RX3 = some cX) (hts : ∀ w ∈ lw_tbl, w.before args s = true) : TW s := by
  refine ⟨fun w hw => ?_, fun q hq => ?_⟩
  · have h := List.mem_filter.mp hw
    exact va_Nw.of (lw_isN_ot h.2) (hts w h.1)
  · have h1 := hts _ (ks_St q hq)
    obtain ⟨-, -, -, b, -, -, -, -, -, hev⟩ := Cond.stringRef_spec hX h1
    exact ⟨b, vk_R.of h1 hev⟩
theorem ks_w1 : Cond.laysStatic Bundle.tN "UNASSIGNED_STACK" Bundle.steD ∈ lw_tbl := by decide +kernel
theorem ks_w2 : Cond.laysStatic Bundle.tN "SUPPRESSED_SENTINEL" Bundle.listD ∈ lw_tbl := by decide +kernel
theorem ks_w3 : Cond.initialized Bundle.tN ∈ lw_tbl := by decide +kernel
theorem ks_n1 : Cond.isRef (.static Bundle.tN "UNASSIGNED_STACK" Bundle.steD) ∈ flatC (Jvm.Cond.and given_1 narrow_1) := by decide +kernel
theorem ks_n2 : Cond.isRef (.static Bundle.tN "SUPPRESSED_SENTINEL" Bundle.listD) ∈ flatC (Jvm.Cond.and given_1 narrow_1) := by decide +kernel
theorem ks_n3 : ∀ w ∈ [Cond.not (.castable xI xA), Cond.not (.castable xI xS), Cond.not (.castable xA xI), Cond.not (.castable xA xS), Cond.not (.castable xS xI), Cond.not (.castable xS xA)], w ∈ flatC (Jvm.Cond.and given_1 narrow_1) := by decide +kernel
theorem ks_Z {args : Array Value} {s : State} (hts : ∀ w ∈ lw_tbl, w.before args s = true) (hgv : (Jvm.Cond.and given_1 narrow_1).before args s = true) : ZW (fun q => s.heap.size ≤ q) s s.heap := by
  have hs := flat_of_before _ hgv
  exact ⟨vx_Zqof (hts _ ks_w1) (hts _ ks_w3) (hs _ ks_n1) (fun a h => Nat.not_le.mpr h), vx_Zqof (hts _ ks_w2) (hts _ ks_w3) (hs _ ks_n2) (fun a h => Nat.not_le.mpr h)⟩
theorem ks_N {args : Array Value} {s : State} (hgv : (Jvm.Cond.and given_1 narrow_1).before args s = true) : NW s := by
  have hs : ∀ w ∈ [Cond.not (.castable xI xA), Cond.not (.castable xI xS), Cond.not (.castable xA xI), Cond.not (.castable xA xS), Cond.not (.castable xS xI), Cond.not (.castable xS xA)], w.before args s = true := fun w h => flat_of_before _ hgv _ (ks_n3 w h)
  exact ⟨⟨va_Nc.of (hs _ (by simp)), va_Nc.of (hs _ (by simp))⟩, ⟨va_Nc.of (hs _ (by simp)), va_Nc.of (hs _ (by simp))⟩, va_Nc.of (hs _ (by simp)), va_Nc.of (hs _ (by simp))⟩
