/-! WHAT BOTH SIDES ANSWER: walks -/
def sAbs (a b : Int) : Int := if a ≤ b then b - a else a - b
theorem sAbs_or (a b : Int) : (a ≤ b ∧ sAbs a b = b - a) ∨ (b < a ∧ sAbs a b = a - b) := by
  unfold sAbs
  by_cases h : a ≤ b
  · rw [if_pos h]; omega
  · rw [if_neg h]; omega
def sXY (x y u v : Int) : Int := sAbs x u + sAbs y v
/-- p, q: a place's floor, x, y; g: a lift's x, y, least, greatest, wait, speed -/
def sLift (g p q : Nat → Int) : Int := sXY (p 1) (p 2) (g 0) (g 1) + (g 4 + g 5 * sAbs (p 0) (q 0)) + sXY (q 1) (q 2) (g 0) (g 1)
def sWayL (lf : Nat → Nat → Int) (p q : Nat → Int) : Nat → Int
  | 0 => -1
  | n + 1 => if (lf n 2 ≤ p 0 ∧ p 0 ≤ lf n 3) ∧ (lf n 2 ≤ q 0 ∧ q 0 ≤ lf n 3) then (if sWayL lf p q n = -1 then sLift (lf n) p q else if sLift (lf n) p q < sWayL lf p q n then sLift (lf n) p q else sWayL lf p q n) else sWayL lf p q n
def sWay (nl : Nat) (lf : Nat → Nat → Int) (p q : Nat → Int) : Int := if p 0 = q 0 then sXY (p 1) (p 2) (q 1) (q 2) else sWayL lf p q nl
/-- a place's and a lift's numbers within their bounds -/
def okP (p : Nat → Int) : Prop := (0 ≤ p 0 ∧ p 0 ≤ 30) ∧ (0 ≤ p 1 ∧ p 1 ≤ 100) ∧ (0 ≤ p 2 ∧ p 2 ≤ 100)
def okL (g : Nat → Int) : Prop := (0 ≤ g 0 ∧ g 0 ≤ 100) ∧ (0 ≤ g 1 ∧ g 1 ≤ 100) ∧ (0 ≤ g 2 ∧ g 2 ≤ 30) ∧ (0 ≤ g 3 ∧ g 3 ≤ 30) ∧ (0 ≤ g 4 ∧ g 4 ≤ 100) ∧ (0 ≤ g 5 ∧ g 5 ≤ 100)
theorem sXY_b {x y u v : Int} (h : (0 ≤ x ∧ x ≤ 100) ∧ (0 ≤ y ∧ y ≤ 100) ∧ (0 ≤ u ∧ u ≤ 100) ∧ (0 ≤ v ∧ v ≤ 100)) : 0 ≤ sXY x y u v ∧ sXY x y u v ≤ 200 := by
  unfold sXY
  have h1 := sAbs_or x u
  have h2 := sAbs_or y v
  omega
theorem mul_b {a b n k : Int} (ha : 0 ≤ a ∧ a ≤ n) (hb : 0 ≤ b ∧ b ≤ k) : 0 ≤ a * b ∧ a * b ≤ n * k := by
  refine ⟨Int.mul_nonneg ha.1 hb.1, Int.mul_le_mul ha.2 hb.2 hb.1 (by omega)⟩
theorem sLift_b {g p q : Nat → Int} (hg : okL g) (hp : okP p) (hq : okP q) : 0 ≤ sLift g p q ∧ sLift g p q ≤ 3500 := by
  unfold okL at hg
  unfold okP at hp hq
  unfold sLift
  have h1 := sXY_b (x := p 1) (y := p 2) (u := g 0) (v := g 1) (by omega)
  have h2 := sXY_b (x := q 1) (y := q 2) (u := g 0) (v := g 1) (by omega)
  have h3 := sAbs_or (p 0) (q 0)
  have h4 := mul_b (a := g 5) (b := sAbs (p 0) (q 0)) (n := 100) (k := 30) (by omega) (by omega)
  omega
theorem sWayL_b {lf : Nat → Nat → Int} {p q : Nat → Int} {nl : Nat} (hl : ∀ k, k < nl → okL (lf k)) (hp : okP p) (hq : okP q) : -1 ≤ sWayL lf p q nl ∧ sWayL lf p q nl ≤ 3500 := by
  induction nl with
  | zero => unfold sWayL; omega
  | succ n ih =>
    have h := ih (fun k hk => hl k (by omega))
    have h2 := sLift_b (hl n (by omega)) hp hq
    unfold sWayL
    split
    · split
      · omega
      · split <;> omega
    · exact h
theorem sWay_b {lf : Nat → Nat → Int} {p q : Nat → Int} {nl : Nat} (hl : ∀ k, k < nl → okL (lf k)) (hp : okP p) (hq : okP q) : -1 ≤ sWay nl lf p q ∧ sWay nl lf p q ≤ 3500 := by
  unfold sWay
  split
  · have h := hp
    have h2 := hq
    unfold okP at h h2
    have h1 := sXY_b (x := p 1) (y := p 2) (u := q 1) (v := q 2) (by omega)
    omega
  · exact sWayL_b hl hp hq
theorem sAbs_cm (a b : Int) : sAbs a b = sAbs b a := by
  have h1 := sAbs_or a b
  have h2 := sAbs_or b a
  omega
