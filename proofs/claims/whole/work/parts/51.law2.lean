theorem home_up {fo fo2 : Nat → Int32} {n n2 x : Nat} {av : Nat → Int} {a : Int} (h : ∀ i, i < n → fo i = iI (av i)) (e : fo2 = upd fo x (iI a)) (hn : n2 = n ∨ (n2 = n + 1 ∧ x = n)) : ∀ i, i < n2 → fo2 i = iI (va_up av x a i) := by
  intro i hi
  rw [e]
  by_cases c : i = x
  · rw [c, upd_s, va_up_self]
  · rw [upd_n _ _ c, va_up_ne _ _ c]
    exact h i (by omega)
theorem rk_keep {fr fr2 : Nat → Int32} {x : Nat} {rk : Nat → Int} (h : ∀ i, i < 40 → fr i = iI (rk i)) (e : fr2 = upd fr x (iI 0)) (hx : rk x = 0) : ∀ i, i < 40 → fr2 i = iI (rk i) := by
  intro i hi
  rw [e]
  by_cases c : i = x
  · rw [c, upd_s, hx]
  · rw [upd_n _ _ c]
    exact h i hi
theorem rk_up {fr fr2 : Nat → Int32} {x : Nat} {rk : Nat → Int} (h : ∀ i, i < 40 → fr i = iI (rk i)) (e : fr2 = upd fr x (iI 1)) : ∀ i, i < 40 → fr2 i = iI (va_up rk x 1 i) := by
  intro i hi
  rw [e]
  by_cases c : i = x
  · rw [c, upd_s, va_up_self]
  · rw [upd_n _ _ c, va_up_ne _ _ c]
    exact h i hi
