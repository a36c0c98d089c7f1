theorem nm_take {M : List Nat} {k x : Nat} (h : x ∉ M.take k) (hk : k < M.length) (c : (↑(M.getD k 0) : Int) ≠ ↑x) : x ∉ M.take (k + 1) := by
  rw [take_s1 hk]
  intro q
  rcases List.mem_append.mp q with q | q
  · exact h q
  · have := List.mem_singleton.mp q
    omega
theorem nm_all {M : List Nat} {k x : Nat} (h : x ∉ M.take k) (hk : M.length ≤ k) : x ∉ M := by rwa [take_all hk] at h
theorem nm_next {T : Nat → List Nat} {b x : Nat} (h : ∀ j, j < b → x ∉ T j) (h2 : x ∉ T b) : ∀ j, j < b + 1 → x ∉ T j := by
  intro j hj
  rcases Nat.lt_or_ge j b with c | c
  · exact h j c
  · rw [show j = b by omega]; exact h2
theorem mem_at {M : List Nat} {k x : Nat} (hk : k < M.length) (c : (↑(M.getD k 0) : Int) = ↑x) : x ∈ M := by
  have : M.getD k 0 = x := by omega
  rw [← this]
  exact getD_in hk
