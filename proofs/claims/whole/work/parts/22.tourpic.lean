/-! PICTURES of parts, persons and the tour under way -/
theorem up_same {M : Wm} {a : Nat} {x : Option va_E} (h : M a = x) : va_up M a x = M := by
  funext j
  unfold va_up
  by_cases e : j = a
  · rw [if_pos e, e, h]
  · rw [if_neg e]
/-- a part with its place -/
def PtA (M : Wm) (a : Nat) (n : Int) (p t : Nat → Int) : Prop := okP p ∧ okT t ∧ ∃ pa, M a = some (oPt n pa t) ∧ M pa = some (oPl p)
def PeA (M : Wm) (a : Nat) (n : Int) (p u : Nat → Int) : Prop := okP p ∧ okU u ∧ ∃ ha, M a = some (oPe n ha u) ∧ M ha = some (oPl p)
abbrev oTo (oa ga : Nat) (dy : Int) (cn dn : Nat) (wk wo : Int) : va_E := .inr (6, [.ref oa, .ref ga, .int (iI dy), .int (iI (cn : Int)), .int (iI (dn : Int)), .int (iI wk), .int (iI wo)])
/-- the tour a of the person ga, whose home's place is ph; its stops are the parts sq 0, sq 1 ..; pp, tt: the parts' places and numbers -/
def ToA (tys : xK) (M : Wm) (a oa ga : Nat) (dy : Int) (cn dn : Nat) (wk wo : Int) (so : Nat → Option Nat) (sq : Nat → Nat) (pp tt : Nat → Nat → Int) (ph : Nat → Int) : Prop :=
  M a = some (oTo oa ga dy cn dn wk wo) ∧ M oa = some (aR tys 4 20 so) ∧ (cn ≤ 20 ∧ dn ≤ cn) ∧ (∃ n u, PeA M ga n ph u) ∧ (∀ k, k < cn → sq k < 40 ∧ ∃ b, so k = some b ∧ PtA M b (sq k) (pp (sq k)) (tt (sq k)))
def sBef (sq : Nat → Nat) (pp : Nat → Nat → Int) (ph : Nat → Int) (g : Nat) : Nat → Int := if 0 < g then pp (sq (g - 1)) else ph
def sBeh (sq : Nat → Nat) (pp : Nat → Nat → Int) (ph : Nat → Int) (cn g : Nat) : Nat → Int := if g < cn then pp (sq g) else ph
theorem ToA.bef {tys : xK} {M : Wm} {a oa ga : Nat} {dy : Int} {cn dn : Nat} {wk wo : Int} {so : Nat → Option Nat} {sq : Nat → Nat} {pp tt : Nat → Nat → Int} {ph : Nat → Int} (h : ToA tys M a oa ga dy cn dn wk wo so sq pp tt ph) {g : Nat} (hg : g ≤ cn) : okP (sBef sq pp ph g) := by
  obtain ⟨-, -, -, ⟨n, u, hp, -⟩, he⟩ := h
  unfold sBef
  split
  · obtain ⟨-, b, -, h2, -⟩ := he (g - 1) (by omega)
    exact h2
  · exact hp
theorem ToA.beh {tys : xK} {M : Wm} {a oa ga : Nat} {dy : Int} {cn dn : Nat} {wk wo : Int} {so : Nat → Option Nat} {sq : Nat → Nat} {pp tt : Nat → Nat → Int} {ph : Nat → Int} (h : ToA tys M a oa ga dy cn dn wk wo so sq pp tt ph) {g : Nat} : okP (sBeh sq pp ph cn g) := by
  obtain ⟨-, -, -, ⟨n, u, hp, -⟩, he⟩ := h
  unfold sBeh
  split
  · rename_i hg
    obtain ⟨-, b, -, h2, -⟩ := he g hg
    exact h2
  · exact hp
/-- by how much walks become longer at the gap g -/
def sDet (nl : Nat) (lf : Nat → Nat → Int) (sq : Nat → Nat) (pp : Nat → Nat → Int) (ph : Nat → Int) (cn : Nat) (p : Nat → Int) (g : Nat) : Int :=
  sWay nl lf (sBef sq pp ph g) p + sWay nl lf p (sBeh sq pp ph cn g) - sWay nl lf (sBef sq pp ph g) (sBeh sq pp ph cn g)
/-- the first gap with the least detour among n gaps from lo on, and that detour; -1 if there is none -/
def sGap (w1 w2 dt : Nat → Int) (lo : Nat) : Nat → Int × Int
  | 0 => (-1, 0)
  | n + 1 => if (¬ w1 (lo + n) = -1 ∧ ¬ w2 (lo + n) = -1) ∧ ((sGap w1 w2 dt lo n).1 = -1 ∨ dt (lo + n) < (sGap w1 w2 dt lo n).2) then (((lo + n : Nat) : Int), dt (lo + n)) else sGap w1 w2 dt lo n
theorem sGap_b {w1 w2 dt : Nat → Int} {lo n : Nat} (hd : ∀ g, -10000 ≤ dt g ∧ dt g ≤ 10000) : (-1 ≤ (sGap w1 w2 dt lo n).1 ∧ (sGap w1 w2 dt lo n).1 < lo + n + 1) ∧ -10000 ≤ (sGap w1 w2 dt lo n).2 ∧ (sGap w1 w2 dt lo n).2 ≤ 10000 := by
  induction n with
  | zero => unfold sGap; dsimp only; omega
  | succ n ih =>
    unfold sGap
    have := hd (lo + n)
    split
    · dsimp only; omega
    · omega
