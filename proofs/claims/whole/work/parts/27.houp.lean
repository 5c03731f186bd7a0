/-! A HOUSE stays where another cell is written -/
def hok (tys : xK) (e : va_E) : Prop := match e with
  | .inr o => o.1 ≠ 0 ∧ o.1 ≠ 1
  | .inl (c, _, .inl _) => True
  | .inl (c, _, .inr _) => c ≠ tc tys 3
theorem HoA_up {tys : xK} {M : Wm} {h nl a : Nat} {lf : Nat → Nat → Int} {e x : va_E} (hH : HoA tys M h nl lf) (ha : M a = some e) (hk : hok tys e) : HoA tys (va_up M a (some x)) h nl lf := by
  obtain ⟨h1, h2, pa, la, np, gl, h3, h4, h5⟩ := hH
  have n1 : h ≠ a := by
    intro q
    rw [← q, h3] at ha
    cases ha
    exact hk.1 rfl
  have n2 : la ≠ a := by
    intro q
    rw [← q, h4] at ha
    cases ha
    exact hk rfl
  refine ⟨h1, h2, pa, la, np, gl, (wd_up_n n1).trans h3, (wd_up_n n2).trans h4, fun k hkk => ?_⟩
  obtain ⟨y, g1, g2⟩ := h5 k hkk
  have n3 : y ≠ a := by
    intro q
    rw [← q, g2] at ha
    cases ha
    exact hk.2 rfl
  exact ⟨y, g1, (wd_up_n n3).trans g2⟩
