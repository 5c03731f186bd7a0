/-! cells that differ lie apart -/
theorem ne_oo {M : Wm} {a b ci cj : Nat} {fs gs : List Value} (h1 : M a = some (.inr (ci, fs))) (h2 : M b = some (.inr (cj, gs))) (h : ci ≠ cj) : a ≠ b := by
  intro e
  rw [e, h2] at h1
  injection h1 with h1
  injection h1 with h1
  injection h1 with h1
  exact h h1.symm
theorem ne_oa {M : Wm} {a b ci : Nat} {fs : List Value} {x : ClassId × vp_A} (h1 : M a = some (.inr (ci, fs))) (h2 : M b = some (.inl x)) : a ≠ b := by
  intro e
  rw [e, h2] at h1
  cases h1
theorem ne_ia {M : Wm} {a b : Nat} {c1 c2 : ClassId} {n k : Nat} {f : Nat → Int32} {g : Nat → Option Nat} (h1 : M a = some (.inl (c1, n, .inl f))) (h2 : M b = some (.inl (c2, k, .inr (.inr (.inr (.inr g)))))) : a ≠ b := by
  intro e
  rw [e, h2] at h1
  cases h1
theorem om_test1 (a b : Int) (h : 0 ≤ a ∧ a ≤ 100) (h2 : 0 ≤ b ∧ b ≤ 100) : (if a ≤ b then b - a else a - b) ≤ 100 := by omega
