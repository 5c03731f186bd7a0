/-! PICTURES of the cells -/
/-- the array classes: of ints, of longs, of places, lifts, parts, persons -/
def tyOK (tys : xK) : Prop := tys[0]? = some (tc tys 0, .int) ∧ tys[1]? = some (tc tys 1, .long) ∧ tys[2]? = some (tc tys 2, .object "CareTours$Place") ∧ tys[3]? = some (tc tys 3, .object "CareTours$Lift") ∧ tys[4]? = some (tc tys 4, .object "CareTours$Part") ∧ tys[5]? = some (tc tys 5, .object "CareTours$Person") ∧ tc tys 3 ≠ tc tys 2 ∧ tc tys 4 ≠ tc tys 2 ∧ tc tys 5 ≠ tc tys 2 ∧ tc tys 4 ≠ tc tys 3 ∧ tc tys 5 ≠ tc tys 3 ∧ tc tys 5 ≠ tc tys 4
abbrev oPl (p : Nat → Int) : va_E := .inr (4, [.int (iI (p 0)), .int (iI (p 1)), .int (iI (p 2))])
abbrev oLi (g : Nat → Int) : va_E := .inr (1, [.int (iI (g 0)), .int (iI (g 1)), .int (iI (g 2)), .int (iI (g 3)), .int (iI (g 4)), .int (iI (g 5))])
abbrev oPt (n : Int) (pa : Nat) (t : Nat → Int) : va_E := .inr (2, [.int (iI n), .ref pa, .int (iI (t 0)), .int (iI (t 1)), .int (iI (t 2)), .int (iI (t 3)), .int (iI (t 4)), .int (iI (t 5)), .int (iI (t 6)), .int (iI (t 7)), .int (iI (t 8))])
abbrev oPe (n : Int) (ha : Nat) (u : Nat → Int) : va_E := .inr (3, [.int (iI n), .int (iI (u 0)), .ref ha, .int (iI (u 1))])
abbrev aI (tys : xK) (n : Nat) (f : Nat → Int) : va_E := .inl (tc tys 0, n, .inl (fun j => iI (f j)))
abbrev aR (tys : xK) (t n : Nat) (g : Nat → Option Nat) : va_E := .inl (tc tys t, n, .inr (.inr (.inr (.inr g))))
abbrev oHo (pa la : Nat) (np nl : Int) : va_E := .inr (0, [.ref pa, .ref la, .int (iI np), .int (iI nl)])
/-- a part's numbers: skill, kind, every, hours, work, tested, used, last told, worn -/
def okT (t : Nat → Int) : Prop := (0 ≤ t 0 ∧ t 0 ≤ 7) ∧ (0 ≤ t 1 ∧ t 1 ≤ 4) ∧ (1 ≤ t 2 ∧ t 2 ≤ 400) ∧ (1 ≤ t 3 ∧ t 3 ≤ 10000) ∧ (1 ≤ t 4 ∧ t 4 ≤ 7200) ∧ (0 ≤ t 5 ∧ t 5 ≤ 100000) ∧ (0 ≤ t 6 ∧ t 6 ≤ 1000000) ∧ (0 ≤ t 7 ∧ t 7 ≤ 100000) ∧ (-1 ≤ t 8 ∧ t 8 ≤ 100000)
def okU (u : Nat → Int) : Prop := (0 ≤ u 0 ∧ u 0 ≤ 255) ∧ (0 ≤ u 1 ∧ u 1 ≤ 100000)
def sDue (t : Nat → Int) : Int := if t 8 = -1 then t 5 + t 2 else if t 8 < t 5 + t 2 then t 8 else t 5 + t 2
theorem sDue_or (t : Nat → Int) : (t 8 = -1 ∧ sDue t = t 5 + t 2) ∨ (¬ t 8 = -1 ∧ t 8 < t 5 + t 2 ∧ sDue t = t 8) ∨ (¬ t 8 = -1 ∧ ¬ t 8 < t 5 + t 2 ∧ sDue t = t 5 + t 2) := by
  unfold sDue
  by_cases h : t 8 = -1
  · rw [if_pos h]; omega
  · rw [if_neg h]
    by_cases h2 : t 8 < t 5 + t 2
    · rw [if_pos h2]; omega
    · rw [if_neg h2]; omega
theorem sDue_b {t : Nat → Int} (h : okT t) : 0 ≤ sDue t ∧ sDue t ≤ 100400 := by
  unfold okT at h
  have := sDue_or t
  omega
/-! bits -/
def sBit (s k : Int) : Int := ((s.toNat / 2 ^ k.toNat % 2 : Nat) : Int)
theorem shr_nn : ∀ s, s < 256 → ∀ k, k < 8 → nI s >>> (nI k &&& 31) = nI (s / 2 ^ k) := by decide +kernel
theorem and1_nn : ∀ s, s < 256 → nI s &&& 1 = nI (s % 2) := by decide +kernel
theorem shl_nn : ∀ k, k < 8 → (1 : Int32) <<< (nI k &&& 31) = nI (2 ^ k) := by decide +kernel
theorem iI_toNat {z : Int} (h : 0 ≤ z) : iI z = nI z.toNat := by
  rw [← iI_nat]
  congr 1
  omega
theorem shr_i {s k : Int} (hs : 0 ≤ s ∧ s ≤ 255) (hk : 0 ≤ k ∧ k ≤ 7) : iI s >>> (iI k &&& 31) = iI ((s.toNat / 2 ^ k.toNat : Nat) : Int) := by
  rw [iI_toNat hs.1, iI_toNat hk.1, shr_nn _ (by omega) _ (by omega), iI_nat]
theorem and1_i {s k : Int} (hs : 0 ≤ s ∧ s ≤ 255) : iI ((s.toNat / 2 ^ k.toNat : Nat) : Int) &&& iI 1 = iI (sBit s k) := by
  have h : s.toNat / 2 ^ k.toNat < 256 := Nat.lt_of_le_of_lt (Nat.div_le_self _ _) (by omega)
  rw [iI_nat, show iI 1 = (1 : Int32) from rfl, and1_nn _ h]
  unfold sBit
  rw [iI_nat]
theorem shl_i {k : Int} (hk : 0 ≤ k ∧ k ≤ 7) : iI 1 <<< (iI k &&& 31) = iI ((2 ^ k.toNat : Nat) : Int) := by
  rw [iI_toNat hk.1, show iI 1 = (1 : Int32) from rfl, shl_nn _ (by omega), iI_nat]
theorem sBit_b (s k : Int) : 0 ≤ sBit s k ∧ sBit s k ≤ 1 := by
  unfold sBit
  have := Nat.mod_lt (s.toNat / 2 ^ k.toNat) (show 0 < 2 by decide)
  omega
/-- a house: its lifts -/
def HoA (tys : xK) (M : Wm) (h nl : Nat) (lf : Nat → Nat → Int) : Prop := nl ≤ 6 ∧ (∀ k, k < nl → okL (lf k)) ∧ ∃ (pa la : Nat) (np : Int) (gl : Nat → Option Nat), M h = some (oHo pa la np nl) ∧ M la = some (aR tys 3 6 gl) ∧ ∀ k, k < nl → ∃ x, gl k = some x ∧ M x = some (oLi (lf k))
