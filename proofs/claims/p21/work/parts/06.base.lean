/-! ints by whole numbers; rows over them; calls in one row -/
def iI (z : Int) : Int32 := Int32.ofInt z
theorem iI_t {z : Int} (h : -2147483648 ≤ z ∧ z < 2147483648) : (iI z).toInt = z := Int32.toInt_ofInt_of_le (by omega) (by omega)
theorem iI_o (x : Int32) : iI x.toInt = x := Int32.ofInt_toInt x
theorem iI_rg (x : Int32) : -2147483648 ≤ x.toInt ∧ x.toInt < 2147483648 := ⟨Int32.le_toInt x, Int32.toInt_lt x⟩
theorem iI_add (u v : Int) : iI u + iI v = iI (u + v) := (Int32.ofInt_add u v).symm
theorem iI_sub (u v : Int) : iI u - iI v = iI (u - v) := (Int32.ofInt_sub u v).symm
theorem iI_lt {u v : Int} (h : (-2147483648 ≤ u ∧ u < 2147483648) ∧ (-2147483648 ≤ v ∧ v < 2147483648)) : iI u < iI v ↔ u < v := by rw [Int32.lt_iff_toInt_lt, iI_t h.1, iI_t h.2]
theorem iI_le {u v : Int} (h : (-2147483648 ≤ u ∧ u < 2147483648) ∧ (-2147483648 ≤ v ∧ v < 2147483648)) : iI u ≤ iI v ↔ u ≤ v := by rw [Int32.le_iff_toInt_le, iI_t h.1, iI_t h.2]
theorem iI_eq {u v : Int} (h : (-2147483648 ≤ u ∧ u < 2147483648) ∧ (-2147483648 ≤ v ∧ v < 2147483648)) : iI u = iI v ↔ u = v := by rw [← Int32.toInt_inj, iI_t h.1, iI_t h.2]
theorem iI_0 : (0 : Int32) = iI 0 := by decide
theorem iI_cl {z : Int} (k : Nat) (hk : z = (k : Int)) (h : k < 2147483648) : (iI z).toNatClampNeg = k := by
  show (iI z).toInt.toNat = k
  rw [iI_t (by omega)]
  omega
theorem iI_in {z : Int} {n : Nat} (k : Nat) (hk : z = (k : Int)) (h : k < n) (hn : n < 2147483648) : vp_in (iI z) n := by
  rw [vp_in_iff, iI_t (by omega)]
  omega
theorem nI_i (n : Nat) : nI n = iI (n : Int) := Int32.ofInt_eq_ofNat.symm
theorem iI_ne {z : Int} (k : Nat) (hk : z = (k : Int)) (h : k < 2147483648) : ¬ iI z < 0 := by
  rw [iI_0, iI_lt (by omega)]
  omega
theorem upd_s (f : Nat → Int32) (k : Nat) (x : Int32) : upd f k x k = x := by simp [upd]
theorem upd_n (f : Nat → Int32) {k j : Nat} (x : Int32) (h : j ≠ k) : upd f k x j = f j := by simp [upd, h]
section LZ
variable {p : Program} {l : Launch} {e : Env} {R : Room} {s : State} {m : MethodId} {args : Array Value} {below : List Frame} {meth : Method} {c : Code} {H : Heap} {locs : List Loc} {cells slots : Nat} {Q : State → Prop}
variable {cc : ByteArray} {pc : Nat} {ls : Array Slot} {rest : List Value} {D : va_G} {cl : List vw_C} {A : Nat → Prop} {a : Nat} {tys : List (ClassId × FieldType)} {ws : va_W} {H0 : Heap}

theorem lz_iconst (hexec : p.tables.exec = Jvm.exec) (hb : c.code = cc) {n : Int} (hdg : decode cc pc = .ok (.iconst n, 1))
    (kk : ∀ x : Int32, x = iI n → W p l e R s m args below meth c H locs cells slots Q (F0 m (pc + 1) ls (.int x :: rest))) : W p l e R s m args below meth c H locs cells slots Q (F0 m pc ls rest) := lv_iconst (v := iI n) hexec hb hdg rfl (kk _ rfl)
theorem lz_bipush (hexec : p.tables.exec = Jvm.exec) (hb : c.code = cc) {n : Int} (hv : (Int8.ofInt n).toInt32 = iI n) (hdg : decode cc pc = .ok (.bipush n, 2))
    (kk : ∀ x : Int32, x = iI n → W p l e R s m args below meth c H locs cells slots Q (F0 m (pc + 2) ls (.int x :: rest))) : W p l e R s m args below meth c H locs cells slots Q (F0 m pc ls rest) := lv_bipush (v := iI n) hexec hb hdg hv (kk _ rfl)
theorem lz_sipush (hexec : p.tables.exec = Jvm.exec) (hb : c.code = cc) {n : Int} (hv : (Int16.ofInt n).toInt32 = iI n) (hdg : decode cc pc = .ok (.sipush n, 3))
    (kk : ∀ x : Int32, x = iI n → W p l e R s m args below meth c H locs cells slots Q (F0 m (pc + 3) ls (.int x :: rest))) : W p l e R s m args below meth c H locs cells slots Q (F0 m pc ls rest) := lv_sipush (v := iI n) hexec hb hdg hv (kk _ rfl)
theorem lz_iadd (hexec : p.tables.exec = Jvm.exec) (hb : c.code = cc) {x y : Int32} {u v : Int} (hx : x = iI u) (hy : y = iI v) (hdg : decode cc pc = .ok (.iadd, 1))
    (kk : ∀ z : Int32, z = iI (u + v) → W p l e R s m args below meth c H locs cells slots Q (F0 m (pc + 1) ls (.int z :: rest))) : W p l e R s m args below meth c H locs cells slots Q (F0 m pc ls (.int y :: .int x :: rest)) := lv_iadd hexec hb hdg (kk _ (by rw [hx, hy, iI_add]))
theorem lz_isub (hexec : p.tables.exec = Jvm.exec) (hb : c.code = cc) {x y : Int32} {u v : Int} (hx : x = iI u) (hy : y = iI v) (hdg : decode cc pc = .ok (.isub, 1))
    (kk : ∀ z : Int32, z = iI (u - v) → W p l e R s m args below meth c H locs cells slots Q (F0 m (pc + 1) ls (.int z :: rest))) : W p l e R s m args below meth c H locs cells slots Q (F0 m pc ls (.int y :: .int x :: rest)) := lv_isub hexec hb hdg (kk _ (by rw [hx, hy, iI_sub]))
theorem lz_iinc (hexec : p.tables.exec = Jvm.exec) (hb : c.code = cc) {i nL k : Nat} {n u : Int} {x : Int32} {lv : List (Nat × Value)} {lv2 : Int32 → List (Nat × Value)} (hdg : decode cc pc = .ok (.iinc i n, 3)) (h : lv_has ls nL lv) (hk : lv[k]? = some (i, .int x)) (hx : x = iI u) (hn : i < nL) (hl : ∀ v : Int32, (i, Value.int v) :: lv.filter (fun q => !(q.1 == i) && !(q.1 + 1 == i && q.2.category == 2)) = lv2 v)
    (kk : ∀ (v : Int32) (ls2 : Array Slot), v = iI (u + n) → lv_has ls2 nL (lv2 v) → W p l e R s m args below meth c H locs cells slots Q (F0 m (pc + 3) ls2 rest)) : W p l e R s m args below meth c H locs cells slots Q (F0 m pc ls rest) := lv_iinc (v := x + Int32.ofInt n) hexec hb hdg h hk rfl hn (hl _) (fun ls2 h2 => kk _ ls2 (by rw [hx]; exact iI_add u n) h2)
theorem lz_icmp_eq (hexec : p.tables.exec = Jvm.exec) (hb : c.code = cc) {x y : Int32} {u v : Int} {off : Int} {tgt : Nat} (hx : x = iI u) (hy : y = iI v) (hr : (-2147483648 ≤ u ∧ u < 2147483648) ∧ (-2147483648 ≤ v ∧ v < 2147483648)) (hdg : decode cc pc = .ok (.if_icmp .eq off, 3)) (ht : (pc : Int) + off = (tgt : Int))
    (kt : u = v → W p l e R s m args below meth c H locs cells slots Q (F0 m tgt ls rest)) (kf : u ≠ v → W p l e R s m args below meth c H locs cells slots Q (F0 m (pc + 3) ls rest)) : W p l e R s m args below meth c H locs cells slots Q (F0 m pc ls (.int y :: .int x :: rest)) := lv_icmp_eq hexec hb hdg ht (fun h => kt (by rw [hx, hy, iI_eq hr] at h; exact h)) (fun h => kf (fun q => h (by rw [hx, hy, q])))
theorem lz_if_eq (hexec : p.tables.exec = Jvm.exec) (hb : c.code = cc) {x : Int32} {u : Int} {off : Int} {tgt : Nat} (hx : x = iI u) (hr : -2147483648 ≤ u ∧ u < 2147483648) (hdg : decode cc pc = .ok (.ifCond .eq off, 3)) (ht : (pc : Int) + off = (tgt : Int))
    (kt : u = 0 → W p l e R s m args below meth c H locs cells slots Q (F0 m tgt ls rest)) (kf : u ≠ 0 → W p l e R s m args below meth c H locs cells slots Q (F0 m (pc + 3) ls rest)) : W p l e R s m args below meth c H locs cells slots Q (F0 m pc ls (.int x :: rest)) := lv_if_eq hexec hb hdg ht (fun h => kt (by rw [hx, iI_0, iI_eq ⟨hr, by omega⟩] at h; exact h)) (fun h => kf (fun q => h (by rw [hx, q]; rfl)))
theorem lz_icmp_ne (hexec : p.tables.exec = Jvm.exec) (hb : c.code = cc) {x y : Int32} {u v : Int} {off : Int} {tgt : Nat} (hx : x = iI u) (hy : y = iI v) (hr : (-2147483648 ≤ u ∧ u < 2147483648) ∧ (-2147483648 ≤ v ∧ v < 2147483648)) (hdg : decode cc pc = .ok (.if_icmp .ne off, 3)) (ht : (pc : Int) + off = (tgt : Int))
    (kt : u ≠ v → W p l e R s m args below meth c H locs cells slots Q (F0 m tgt ls rest)) (kf : u = v → W p l e R s m args below meth c H locs cells slots Q (F0 m (pc + 3) ls rest)) : W p l e R s m args below meth c H locs cells slots Q (F0 m pc ls (.int y :: .int x :: rest)) := lv_icmp_ne hexec hb hdg ht (fun h => kt (fun q => h (by rw [hx, hy, q]))) (fun h => kf (by rw [hx, hy, iI_eq hr] at h; exact h))
theorem lz_if_ne (hexec : p.tables.exec = Jvm.exec) (hb : c.code = cc) {x : Int32} {u : Int} {off : Int} {tgt : Nat} (hx : x = iI u) (hr : -2147483648 ≤ u ∧ u < 2147483648) (hdg : decode cc pc = .ok (.ifCond .ne off, 3)) (ht : (pc : Int) + off = (tgt : Int))
    (kt : u ≠ 0 → W p l e R s m args below meth c H locs cells slots Q (F0 m tgt ls rest)) (kf : u = 0 → W p l e R s m args below meth c H locs cells slots Q (F0 m (pc + 3) ls rest)) : W p l e R s m args below meth c H locs cells slots Q (F0 m pc ls (.int x :: rest)) := lv_if_ne hexec hb hdg ht (fun h => kt (fun q => h (by rw [hx, q]; rfl))) (fun h => kf (by rw [hx, iI_0, iI_eq ⟨hr, by omega⟩] at h; exact h))
theorem lz_icmp_lt (hexec : p.tables.exec = Jvm.exec) (hb : c.code = cc) {x y : Int32} {u v : Int} {off : Int} {tgt : Nat} (hx : x = iI u) (hy : y = iI v) (hr : (-2147483648 ≤ u ∧ u < 2147483648) ∧ (-2147483648 ≤ v ∧ v < 2147483648)) (hdg : decode cc pc = .ok (.if_icmp .lt off, 3)) (ht : (pc : Int) + off = (tgt : Int))
    (kt : u < v → W p l e R s m args below meth c H locs cells slots Q (F0 m tgt ls rest)) (kf : v ≤ u → W p l e R s m args below meth c H locs cells slots Q (F0 m (pc + 3) ls rest)) : W p l e R s m args below meth c H locs cells slots Q (F0 m pc ls (.int y :: .int x :: rest)) := lv_icmp_lt hexec hb hdg ht (fun h => kt (by rw [hx, hy, iI_lt hr] at h; omega)) (fun h => kf (by rw [hx, hy, iI_lt hr] at h; omega))
theorem lz_if_lt (hexec : p.tables.exec = Jvm.exec) (hb : c.code = cc) {x : Int32} {u : Int} {off : Int} {tgt : Nat} (hx : x = iI u) (hr : -2147483648 ≤ u ∧ u < 2147483648) (hdg : decode cc pc = .ok (.ifCond .lt off, 3)) (ht : (pc : Int) + off = (tgt : Int))
    (kt : u < 0 → W p l e R s m args below meth c H locs cells slots Q (F0 m tgt ls rest)) (kf : 0 ≤ u → W p l e R s m args below meth c H locs cells slots Q (F0 m (pc + 3) ls rest)) : W p l e R s m args below meth c H locs cells slots Q (F0 m pc ls (.int x :: rest)) := lv_if_lt hexec hb hdg ht (fun h => kt (by rw [hx, iI_0, iI_lt ⟨hr, by omega⟩] at h; omega)) (fun h => kf (by rw [hx, iI_0, iI_lt ⟨hr, by omega⟩] at h; omega))
theorem lz_icmp_ge (hexec : p.tables.exec = Jvm.exec) (hb : c.code = cc) {x y : Int32} {u v : Int} {off : Int} {tgt : Nat} (hx : x = iI u) (hy : y = iI v) (hr : (-2147483648 ≤ u ∧ u < 2147483648) ∧ (-2147483648 ≤ v ∧ v < 2147483648)) (hdg : decode cc pc = .ok (.if_icmp .ge off, 3)) (ht : (pc : Int) + off = (tgt : Int))
    (kt : v ≤ u → W p l e R s m args below meth c H locs cells slots Q (F0 m tgt ls rest)) (kf : u < v → W p l e R s m args below meth c H locs cells slots Q (F0 m (pc + 3) ls rest)) : W p l e R s m args below meth c H locs cells slots Q (F0 m pc ls (.int y :: .int x :: rest)) := lv_icmp_ge hexec hb hdg ht (fun h => kt (by rw [hx, hy, iI_le ⟨hr.2, hr.1⟩] at h; omega)) (fun h => kf (by rw [hx, hy, iI_le ⟨hr.2, hr.1⟩] at h; omega))
theorem lz_if_ge (hexec : p.tables.exec = Jvm.exec) (hb : c.code = cc) {x : Int32} {u : Int} {off : Int} {tgt : Nat} (hx : x = iI u) (hr : -2147483648 ≤ u ∧ u < 2147483648) (hdg : decode cc pc = .ok (.ifCond .ge off, 3)) (ht : (pc : Int) + off = (tgt : Int))
    (kt : 0 ≤ u → W p l e R s m args below meth c H locs cells slots Q (F0 m tgt ls rest)) (kf : u < 0 → W p l e R s m args below meth c H locs cells slots Q (F0 m (pc + 3) ls rest)) : W p l e R s m args below meth c H locs cells slots Q (F0 m pc ls (.int x :: rest)) := lv_if_ge hexec hb hdg ht (fun h => kt (by rw [hx, iI_0, iI_le ⟨by omega, hr⟩] at h; omega)) (fun h => kf (by rw [hx, iI_0, iI_le ⟨by omega, hr⟩] at h; omega))
theorem lz_icmp_gt (hexec : p.tables.exec = Jvm.exec) (hb : c.code = cc) {x y : Int32} {u v : Int} {off : Int} {tgt : Nat} (hx : x = iI u) (hy : y = iI v) (hr : (-2147483648 ≤ u ∧ u < 2147483648) ∧ (-2147483648 ≤ v ∧ v < 2147483648)) (hdg : decode cc pc = .ok (.if_icmp .gt off, 3)) (ht : (pc : Int) + off = (tgt : Int))
    (kt : v < u → W p l e R s m args below meth c H locs cells slots Q (F0 m tgt ls rest)) (kf : u ≤ v → W p l e R s m args below meth c H locs cells slots Q (F0 m (pc + 3) ls rest)) : W p l e R s m args below meth c H locs cells slots Q (F0 m pc ls (.int y :: .int x :: rest)) := lv_icmp_gt hexec hb hdg ht (fun h => kt (by rw [hx, hy, iI_lt ⟨hr.2, hr.1⟩] at h; omega)) (fun h => kf (by rw [hx, hy, iI_lt ⟨hr.2, hr.1⟩] at h; omega))
theorem lz_if_gt (hexec : p.tables.exec = Jvm.exec) (hb : c.code = cc) {x : Int32} {u : Int} {off : Int} {tgt : Nat} (hx : x = iI u) (hr : -2147483648 ≤ u ∧ u < 2147483648) (hdg : decode cc pc = .ok (.ifCond .gt off, 3)) (ht : (pc : Int) + off = (tgt : Int))
    (kt : 0 < u → W p l e R s m args below meth c H locs cells slots Q (F0 m tgt ls rest)) (kf : u ≤ 0 → W p l e R s m args below meth c H locs cells slots Q (F0 m (pc + 3) ls rest)) : W p l e R s m args below meth c H locs cells slots Q (F0 m pc ls (.int x :: rest)) := lv_if_gt hexec hb hdg ht (fun h => kt (by rw [hx, iI_0, iI_lt ⟨by omega, hr⟩] at h; omega)) (fun h => kf (by rw [hx, iI_0, iI_lt ⟨by omega, hr⟩] at h; omega))
theorem lz_icmp_le (hexec : p.tables.exec = Jvm.exec) (hb : c.code = cc) {x y : Int32} {u v : Int} {off : Int} {tgt : Nat} (hx : x = iI u) (hy : y = iI v) (hr : (-2147483648 ≤ u ∧ u < 2147483648) ∧ (-2147483648 ≤ v ∧ v < 2147483648)) (hdg : decode cc pc = .ok (.if_icmp .le off, 3)) (ht : (pc : Int) + off = (tgt : Int))
    (kt : u ≤ v → W p l e R s m args below meth c H locs cells slots Q (F0 m tgt ls rest)) (kf : v < u → W p l e R s m args below meth c H locs cells slots Q (F0 m (pc + 3) ls rest)) : W p l e R s m args below meth c H locs cells slots Q (F0 m pc ls (.int y :: .int x :: rest)) := lv_icmp_le hexec hb hdg ht (fun h => kt (by rw [hx, hy, iI_le hr] at h; omega)) (fun h => kf (by rw [hx, hy, iI_le hr] at h; omega))
theorem lz_if_le (hexec : p.tables.exec = Jvm.exec) (hb : c.code = cc) {x : Int32} {u : Int} {off : Int} {tgt : Nat} (hx : x = iI u) (hr : -2147483648 ≤ u ∧ u < 2147483648) (hdg : decode cc pc = .ok (.ifCond .le off, 3)) (ht : (pc : Int) + off = (tgt : Int))
    (kt : u ≤ 0 → W p l e R s m args below meth c H locs cells slots Q (F0 m tgt ls rest)) (kf : 0 < u → W p l e R s m args below meth c H locs cells slots Q (F0 m (pc + 3) ls rest)) : W p l e R s m args below meth c H locs cells slots Q (F0 m pc ls (.int x :: rest)) := lv_if_le hexec hb hdg ht (fun h => kt (by rw [hx, iI_0, iI_le ⟨hr, by omega⟩] at h; omega)) (fun h => kf (by rw [hx, iI_0, iI_le ⟨hr, by omega⟩] at h; omega))
theorem lz_iald (hexec : p.tables.exec = Jvm.exec) (hb : c.code = cc) (hK : va_K D cl tys s) (hP : va_P D cl ws H) (q0 t0 : Nat) {cA : ClassId} {n : Nat} {f : Nat → Int32} (ha : ws[q0]? = some (a, .inl (cA, n, .inl f))) (ht : tys[t0]? = some (cA, .int)) {i : Int32} {z : Int} (hi : i = iI z) (k : Nat) (hk : z = (k : Int)) (hlt : k < n) (hn : n < 2147483648) (hdg : decode cc pc = .ok (.iaload, 1))
    (kk : ∀ x : Int32, x = f k → W p l e R s m args below meth c H locs cells slots Q (F0 m (pc + 1) ls (.int x :: rest))) : W p l e R s m args below meth c H locs cells slots Q (F0 m pc ls (.int i :: .ref a :: rest)) := by
  subst hi
  refine va_iald hexec hb hK hP q0 t0 ha ht (iI_in k hk hlt hn) hdg ?_
  rw [iI_cl k hk (by omega)]
  exact kk _ rfl
theorem lz_zald (hexec : p.tables.exec = Jvm.exec) (hb : c.code = cc) (hK : va_K D cl tys s) (hP : va_P D cl ws H) (q0 t0 : Nat) {cA : ClassId} {n : Nat} {f : Nat → Int32} (ha : ws[q0]? = some (a, .inl (cA, n, .inl f))) (ht : tys[t0]? = some (cA, .boolean)) {i : Int32} {z : Int} (hi : i = iI z) (k : Nat) (hk : z = (k : Int)) (hlt : k < n) (hn : n < 2147483648) (hdg : decode cc pc = .ok (.baload, 1))
    (kk : ∀ x : Int32, x = f k → W p l e R s m args below meth c H locs cells slots Q (F0 m (pc + 1) ls (.int x :: rest))) : W p l e R s m args below meth c H locs cells slots Q (F0 m pc ls (.int i :: .ref a :: rest)) := by
  subst hi
  refine va_zald hexec hb hK hP q0 t0 ha ht (iI_in k hk hlt hn) hdg ?_
  rw [iI_cl k hk (by omega)]
  exact kk _ rfl
theorem lz_iast (hexec : p.tables.exec = Jvm.exec) (hb : c.code = cc) (hK : va_K D cl tys s) (hP : va_P D cl ws H) (hD : va_D A ws) (hS : va_S A H0 H locs) (q0 t0 : Nat) {cA : ClassId} {n : Nat} {f : Nat → Int32} (ha : ws[q0]? = some (a, .inl (cA, n, .inl f))) (ht : tys[t0]? = some (cA, .int)) {i x : Int32} {z : Int} (hi : i = iI z) (k : Nat) (hk : z = (k : Int)) (hlt : k < n) (hn : n < 2147483648) {ws2 : (Nat → Int32) → va_W} (hws : ∀ g : Nat → Int32, ws.set q0 (a, .inl (cA, n, .inl g)) = ws2 g) (hdg : decode cc pc = .ok (.iastore, 1))
    (kk : ∀ (g : Nat → Int32) (H1 : Heap) (locs1 : List Loc), g = upd f k x → va_P D cl (ws2 g) H1 → va_D A (ws2 g) → va_S A H0 H1 locs1 → W p l e R s m args below meth c H1 locs1 cells slots Q (F0 m (pc + 1) ls rest)) : W p l e R s m args below meth c H locs cells slots Q (F0 m pc ls (.int x :: .int i :: .ref a :: rest)) := by
  subst hi
  refine va_iast hexec hb hK hP hD hS q0 t0 ha ht (iI_in k hk hlt hn) hdg (fun H1 locs1 h1 h2 h3 => ?_)
  rw [iI_cl k hk (by omega), hws] at h1 h2
  exact kk _ H1 locs1 rfl h1 h2 h3
theorem lz_zast (hexec : p.tables.exec = Jvm.exec) (hb : c.code = cc) (hK : va_K D cl tys s) (hP : va_P D cl ws H) (hD : va_D A ws) (hS : va_S A H0 H locs) (q0 t0 : Nat) {cA : ClassId} {n : Nat} {f : Nat → Int32} (ha : ws[q0]? = some (a, .inl (cA, n, .inl f))) (ht : tys[t0]? = some (cA, .boolean)) {i x : Int32} {z : Int} (hi : i = iI z) (k : Nat) (hk : z = (k : Int)) (hlt : k < n) (hn : n < 2147483648) {ws2 : (Nat → Int32) → va_W} (hws : ∀ g : Nat → Int32, ws.set q0 (a, .inl (cA, n, .inl g)) = ws2 g) (hdg : decode cc pc = .ok (.bastore, 1))
    (kk : ∀ (g : Nat → Int32) (H1 : Heap) (locs1 : List Loc), g = upd f k (vp_nar .boolean x) → va_P D cl (ws2 g) H1 → va_D A (ws2 g) → va_S A H0 H1 locs1 → W p l e R s m args below meth c H1 locs1 cells slots Q (F0 m (pc + 1) ls rest)) : W p l e R s m args below meth c H locs cells slots Q (F0 m pc ls (.int x :: .int i :: .ref a :: rest)) := by
  subst hi
  refine va_zast hexec hb hK hP hD hS q0 t0 ha ht (iI_in k hk hlt hn) hdg (fun H1 locs1 h1 h2 h3 => ?_)
  rw [iI_cl k hk (by omega), hws] at h1 h2
  exact kk _ H1 locs1 rfl h1 h2 h3
theorem lz_copy (hexec : p.tables.exec = Jvm.exec) (hb : c.code = cc) (hml : c.maxLocals = ls.size) {own : String} {index : Nat} (hown : s.vm.findClass own = some m.cls) (hlink : (Cond.methodLink own index arraycopyName).before args s = true) (hnat : (Cond.native arraycopyName).before args s = true) (hstat : (Cond.static arraycopyName).before args s = true) (hini : (Cond.initialized "java/lang/System").before args s = true)
    (hK : va_K D cl tys s) (hP : va_P D cl ws H) (hD : va_D A ws) (hS : va_S A H0 H locs) (q0 q1 t0 t1 : Nat) {a0 : Nat} {c0 c1 : ClassId} {n0 n1 : Nat} {f g : Nat → Int32} (ha0 : ws[q0]? = some (a0, .inl (c0, n0, .inl f))) (ha1 : ws[q1]? = some (a, .inl (c1, n1, .inl g))) (ht0 : tys[t0]? = some (c0, .int)) (ht1 : tys[t1]? = some (c1, .int))
    {sp dp n : Int32} {zs zd zn : Int} (hs : sp = iI zs) (hd : dp = iI zd) (hn : n = iI zn) (ks kd kn : Nat) (es : zs = (ks : Int)) (ed : zd = (kd : Int)) (en : zn = (kn : Int)) (h4 : ks + kn ≤ n0) (h5 : kd + kn ≤ n1) (hn0 : n0 < 2147483648 ∧ n1 < 2147483648)
    (hframes : 1 ≤ R.frames) (hlocals : (rest.map fun v => v.category).sum + (nativeFrameWords "java/lang/System" "arraycopy" 5 + 11) ≤ R.locals) {ws2 : (Nat → Int32) → va_W} (hws : ∀ g2 : Nat → Int32, ws.set q1 (a, .inl (c1, n1, .inl g2)) = ws2 g2) (hdg : decode cc pc = .ok (.invokestatic index, 3))
    (kk : ∀ (g2 : Nat → Int32) (H1 : Heap) (locs1 : List Loc), g2 = va_cpy f g ks kd kn → va_P D cl (ws2 g2) H1 → va_D A (ws2 g2) → va_S A H0 H1 locs1 → W p l e R s m args below meth c H1 locs1 cells slots Q (F0 m (pc + 3) ls rest)) : W p l e R s m args below meth c H locs cells slots Q (F0 m pc ls (.int n :: .int dp :: .ref a :: .int sp :: .ref a0 :: rest)) := by
  subst hs; subst hd; subst hn
  have e1 := iI_cl ks es (by omega)
  have e2 := iI_cl kd ed (by omega)
  have e3 := iI_cl kn en (by omega)
  refine va_copyi hexec hb hml hown hlink hnat hstat hini hK hP hD hS q0 q1 t0 t1 ha0 ha1 ht0 ht1 rfl (iI_ne ks es (by omega)) (iI_ne kd ed (by omega)) (iI_ne kn en (by omega)) (by rw [e1, e3]; exact h4) (by rw [e2, e3]; exact h5) (fun _ _ => rfl) hframes hlocals hdg (fun H1 locs1 h1 h2 h3 => ?_)
  rw [e1, e2, e3, hws] at h1 h2
  exact kk _ H1 locs1 rfl h1 h2 h3
theorem lz_min (hexec : p.tables.exec = Jvm.exec) (hb : c.code = cc) (hml : c.maxLocals = ls.size) {own : String} {index : Nat} (hown : s.vm.findClass own = some m.cls) (hlink : (Cond.methodLink own index Lib.Math.min.name).before args s = true) (hstat : (Cond.static Lib.Math.min.name).before args s = true) (hini : (Cond.initialized "java/lang/Math").before args s = true) (hcode : (Cond.code Lib.Math.min.name Lib.Math.min.code 2 (some .int)).before args s = true)
    (hframes : 1 ≤ R.frames) (hlocals : (rest.map fun v => v.category).sum + 13 ≤ R.locals) (hc : cells ≤ R.cells) (hs : slots ≤ R.slots) {x y : Int32} {u v : Int} (hx : x = iI u) (hy : y = iI v) (hr : (-2147483648 ≤ u ∧ u < 2147483648) ∧ (-2147483648 ≤ v ∧ v < 2147483648)) (hdg : decode cc pc = .ok (.invokestatic index, 3))
    (kk : ∀ z : Int32, z = iI (min u v) → W p l e R s m args below meth c H locs cells slots Q (F0 m (pc + 3) ls (.int z :: rest))) : W p l e R s m args below meth c H locs cells slots Q (F0 m pc ls (.int y :: .int x :: rest)) := by
  refine va_mmin hexec hb hml hown hlink hstat hini hcode hframes hlocals hc hs hdg (kk _ ?_)
  rw [hx, hy]
  by_cases h : v < u
  · rw [if_pos ((iI_lt ⟨hr.2, hr.1⟩).mpr h)]; congr 1; omega
  · rw [if_neg (fun q => h ((iI_lt ⟨hr.2, hr.1⟩).mp q))]; congr 1; omega
theorem lz_max (hexec : p.tables.exec = Jvm.exec) (hb : c.code = cc) (hml : c.maxLocals = ls.size) {own : String} {index : Nat} (hown : s.vm.findClass own = some m.cls) (hlink : (Cond.methodLink own index Lib.Math.max.name).before args s = true) (hstat : (Cond.static Lib.Math.max.name).before args s = true) (hini : (Cond.initialized "java/lang/Math").before args s = true) (hcode : (Cond.code Lib.Math.max.name Lib.Math.max.code 2 (some .int)).before args s = true)
    (hframes : 1 ≤ R.frames) (hlocals : (rest.map fun v => v.category).sum + 13 ≤ R.locals) (hc : cells ≤ R.cells) (hs : slots ≤ R.slots) {x y : Int32} {u v : Int} (hx : x = iI u) (hy : y = iI v) (hr : (-2147483648 ≤ u ∧ u < 2147483648) ∧ (-2147483648 ≤ v ∧ v < 2147483648)) (hdg : decode cc pc = .ok (.invokestatic index, 3))
    (kk : ∀ z : Int32, z = iI (max u v) → W p l e R s m args below meth c H locs cells slots Q (F0 m (pc + 3) ls (.int z :: rest))) : W p l e R s m args below meth c H locs cells slots Q (F0 m pc ls (.int y :: .int x :: rest)) := by
  refine va_mmax hexec hb hml hown hlink hstat hini hcode hframes hlocals hc hs hdg (kk _ ?_)
  rw [hx, hy]
  by_cases h : u < v
  · rw [if_pos ((iI_lt hr).mpr h)]; congr 1; omega
  · rw [if_neg (fun q => h ((iI_lt hr).mp q))]; congr 1; omega
end LZ
