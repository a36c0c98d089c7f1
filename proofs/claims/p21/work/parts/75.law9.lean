/-! what the law's entry stands on -/
theorem ks_arr {args : Array Value} {s : State} {ty : FieldType} (hty : ∀ C, ty ≠ .object C) (h : (Cond.arrayClass ty).before args s = true) : ∃ cA : ClassId, ArrOfT s cA ty ∧ va_RA s cA ty := by
  obtain ⟨cA, kA, comp, h1, h2, h3⟩ := Cond.arrayClass_spec h
  refine ⟨cA, fun n z => ⟨fun k h => (by cases h), kA, h2, comp, h3⟩, ?_⟩
  cases ty <;> first | exact absurd rfl (hty _) | exact h1
theorem ks_ao {args : Array Value} {s : State} {t : FieldType} (h : (Cond.arrayOver (.array t)).before args s = true) : ∃ cA : ClassId, ArrOfT s cA (.array t) ∧ va_RA s cA (.array t) := by
  obtain ⟨comp, c, k, -, -, h3, h4, h5⟩ := arrayOverA_spec h
  exact ⟨c, fun n z => ⟨fun k h => (by cases h), k, h3, comp, h4⟩, h5⟩
theorem ks_oa {t : FieldType} {a b : Array Value} {s : State} (h : (Cond.arrayOver t).before a s = true) : (Cond.arrayOver t).before b s = true := by
  unfold Cond.before Cond.holds at h ⊢
  simp only [Cond.value] at h ⊢
  exact h
theorem ks_o1 : Cond.arrayOver (.array .int) ∈ lw_tbl := List.mem_of_getElem? (i := 567) (by decide +kernel)
theorem ks_o2 : Cond.arrayOver (.array (.array .int)) ∈ lw_tbl := List.mem_of_getElem? (i := 615) (by decide +kernel)
theorem ks_K {args : Array Value} {s : State} (hts : ∀ w ∈ lw_G, w.before args s = true) (ho : ∀ w ∈ lw_tbl, w.before args s = true) : ∃ (D : va_G) (cI cZ cJ cK : ClassId), va_K D vwCl (KT cI cZ cJ cK) s := by
  obtain ⟨c0, f0, k0⟩ := u_known (T := TX0) (N := 5) hts iX0 (hts _ qw32)
  obtain ⟨c1, f1, k1⟩ := u_known (T := TX1) (N := 8) hts iX1 (hts _ qw56)
  obtain ⟨c2, f2, k2⟩ := u_known (T := TX2) (N := 2) hts iX2 (hts _ qw62)
  obtain ⟨c3, f3, k3⟩ := u_known (T := TX3) (N := 5) hts iX3 (hts _ qw24)
  obtain ⟨c4, f4, k4⟩ := u_known (T := TX4) (N := 6) hts iX4 (hts _ qw610)
  obtain ⟨cI, aI, rI⟩ := ks_arr (by intro C h; cases h) (hts _ qw53)
  obtain ⟨cZ, aZ, rZ⟩ := ks_arr (by intro C h; cases h) (hts _ qw54)
  obtain ⟨cJ, aJ, rJ⟩ := ks_ao (ho _ ks_o1)
  obtain ⟨cK, aK, rK⟩ := ks_ao (ho _ ks_o2)
  refine ⟨(fun k => [c0, c1, c2, c3, c4].getD k c0, fun k => [f0, f1, f2, f3, f4].getD k f0), cI, cZ, cJ, cK, fun c q hq => ?_, fun k q hk => ?_⟩
  · rcases c with _ | _ | _ | _ | _ | c
    · cases hq; exact k0
    · cases hq; exact k1
    · cases hq; exact k2
    · cases hq; exact k3
    · cases hq; exact k4
    · exact absurd hq (by simp)
  · rcases k with _ | _ | _ | _ | k
    · cases hk; exact ⟨aI, rI⟩
    · cases hk; exact ⟨aZ, rZ⟩
    · cases hk; exact ⟨aJ, rJ⟩
    · cases hk; exact ⟨aK, rK⟩
    · exact absurd hk (by simp)
theorem ks_St : ∀ q ∈ lw_St, Cond.stringRef RX3 q.1 q.2 ∈ lw_tbl := by decide +kernel
theorem ks_T {args : Array Value} {s : State} {cX : ClassId} (hX : s.vm.findClass RX3 = some cX) (hts : ∀ w ∈ lw_tbl, w.before args s = true) : TW s := by
  refine ⟨fun w hw => ?_, fun q hq => ?_, ks_oa (hts _ ks_o1), ks_oa (hts _ ks_o2)⟩
  · have h := List.mem_filter.mp hw
    exact va_Nw.of (lw_isN_ot h.2) (hts w h.1)
  · have h1 := hts _ (ks_St q hq)
    obtain ⟨-, -, -, b, -, -, -, -, -, hev⟩ := Cond.stringRef_spec hX h1
    exact ⟨b, vk_R.of h1 hev⟩
theorem ks_w1 : Cond.laysStatic Bundle.tN "UNASSIGNED_STACK" Bundle.steD ∈ lw_tbl := by decide +kernel
theorem ks_w2 : Cond.laysStatic Bundle.tN "SUPPRESSED_SENTINEL" Bundle.listD ∈ lw_tbl := by decide +kernel
theorem ks_w3 : Cond.initialized Bundle.tN ∈ lw_tbl := by decide +kernel
theorem ks_n1 : Cond.isRef (.static Bundle.tN "UNASSIGNED_STACK" Bundle.steD) ∈ flatC (Jvm.Cond.and given_1 narrow_1) := by decide +kernel
theorem ks_n2 : Cond.isRef (.static Bundle.tN "SUPPRESSED_SENTINEL" Bundle.listD) ∈ flatC (Jvm.Cond.and given_1 narrow_1) := by decide +kernel
theorem ks_Z {args : Array Value} {s : State} (hts : ∀ w ∈ lw_tbl, w.before args s = true) (hgv : (Jvm.Cond.and given_1 narrow_1).before args s = true) : ZW (fun q => s.heap.size ≤ q) s s.heap := by
  have hs := flat_of_before _ hgv
  exact ⟨vx_Zqof (hts _ ks_w1) (hts _ ks_w3) (hs _ ks_n1) (fun a h => Nat.not_le.mpr h), vx_Zqof (hts _ ks_w2) (hts _ ks_w3) (hs _ ks_n2) (fun a h => Nat.not_le.mpr h)⟩
