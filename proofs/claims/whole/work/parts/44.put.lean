/-! A PART PUT INTO A TOUR -/
def sLg (nl : Nat) (lf : Nat → Nat → Int) (P : Nat → Nat → Int) : Nat → Int
  | 0 => 0
  | k + 1 => sLg nl lf P k + sWay nl lf (P k) (P (k + 1))
theorem sWs_lg {s : AS} {nl w cn : Nat} (k : Nat) : sWs s nl w cn k = sLg nl (s 2) (sPth s w cn) k := by
  induction k with
  | zero => rfl
  | succ k ih => unfold sWs sLg; rw [ih]
theorem sLg_cg {nl : Nat} {lf : Nat → Nat → Int} {P P' : Nat → Nat → Int} {n : Nat} (h : ∀ k, k ≤ n → P' k = P k) : sLg nl lf P' n = sLg nl lf P n := by
  induction n with
  | zero => rfl
  | succ n ih =>
    unfold sLg
    rw [ih (fun k hk => h k (by omega)), h n (by omega), h (n + 1) (by omega)]
theorem sLg_ins {nl g : Nat} {lf : Nat → Nat → Int} {P P' : Nat → Nat → Int} {q : Nat → Int} {d : Int} (h1 : ∀ k, k ≤ g → P' k = P k) (h2 : P' (g + 1) = q) (h3 : ∀ k, g + 1 ≤ k → P' (k + 1) = P k) (hd : d = sWay nl lf (P g) q + sWay nl lf q (P (g + 1)) - sWay nl lf (P g) (P (g + 1))) (j : Nat) : sLg nl lf P' (g + j + 2) = sLg nl lf P (g + j + 1) + d := by
  induction j with
  | zero =>
    show sLg nl lf P' (g + 1 + 1) = sLg nl lf P (g + 1) + d
    rw [sLg.eq_2, sLg.eq_2, sLg.eq_2, sLg_cg h1, h1 g (Nat.le_refl g), h2, h3 (g + 1) (Nat.le_refl _), hd]
    omega
  | succ j ih =>
    show sLg nl lf P' ((g + j + 2) + 1) = sLg nl lf P ((g + j + 1) + 1) + d
    rw [sLg.eq_2 nl lf P' (g + j + 2), sLg.eq_2 nl lf P (g + j + 1), ih, show g + j + 2 = (g + j + 1) + 1 by omega, h3 (g + j + 1) (by omega), h3 (g + j + 1 + 1) (by omega)]
    omega
theorem sSum_ins {f f' : Nat → Int} {g : Nat} {v : Int} (h1 : ∀ k, k < g → f' k = f k) (h2 : f' g = v) (h3 : ∀ k, g ≤ k → f' (k + 1) = f k) (j : Nat) : sSum f' (g + j + 1) = sSum f (g + j) + v := by
  induction j with
  | zero =>
    show sSum f' (g + 1) = sSum f g + v
    rw [sSum.eq_2, sSum_cg h1, h2]
  | succ j ih =>
    show sSum f' ((g + j + 1) + 1) = sSum f ((g + j) + 1) + v
    rw [sSum.eq_2 f' (g + j + 1), sSum.eq_2 f (g + j), ih, h3 (g + j) (by omega)]
    omega
/-- stops by their places; nothing behind the last -/
def sSq (s : AS) (k : Nat) : Nat := if k < (s 0 0 7).toNat then (s 6 0 k).toNat else 0
def sGp (s : AS) (p : Nat) : Int × Int :=
  sGap (fun g => sWay (s 0 0 2).toNat (s 2) (sBef (sSq s) (sPP s) (sHP s (s 0 0 5).toNat) g) (sPP s p)) (fun g => sWay (s 0 0 2).toNat (s 2) (sPP s p) (sBeh (sSq s) (sPP s) (sHP s (s 0 0 5).toNat) (s 0 0 7).toNat g)) (sDet (s 0 0 2).toNat (s 2) (sSq s) (sPP s) (sHP s (s 0 0 5).toNat) (s 0 0 7).toNat (sPP s p)) (s 0 0 8).toNat ((s 0 0 7).toNat + 1 - (s 0 0 8).toNat)
def sPut (s : AS) (p g : Nat) (d : Int) : AS := sR (sR s 6 0 (fun j => if j < g then s 6 0 j else if j = g then (p : Int) else s 6 0 (j - 1))) 0 0 (va_up (va_up (va_up (s 0 0) 7 (s 0 0 7 + 1)) 9 (s 0 0 9 + d)) 10 (s 0 0 10 + s 3 p 4))
theorem okS_put {s : AS} {np nl nt ns p g : Nat} {d : Int} (h : okS s np nl nt ns) : okS (sPut s p g d) np nl nt ns := h
theorem sGap_ok {w1 w2 dt : Nat → Int} {lo : Nat} (n : Nat) : (sGap w1 w2 dt lo n).1 = -1 ∨ ∃ g, lo ≤ g ∧ g < lo + n ∧ (sGap w1 w2 dt lo n).1 = (g : Int) ∧ (sGap w1 w2 dt lo n).2 = dt g ∧ ¬ w1 g = -1 ∧ ¬ w2 g = -1 := by
  induction n with
  | zero => exact Or.inl rfl
  | succ n ih =>
    unfold sGap
    split
    · rename_i h
      exact Or.inr ⟨lo + n, by omega, by omega, rfl, rfl, h.1.1, h.1.2⟩
    · rcases ih with h | ⟨g, h1, h2, h3⟩
      · exact Or.inl h
      · exact Or.inr ⟨g, h1, by omega, h3⟩
theorem ToA_sq {tys : xK} {M : Wm} {a oa ga : Nat} {dy : Int} {cn dn : Nat} {wk wo : Int} {so : Nat → Option Nat} {sq sq' : Nat → Nat} {pp tt : Nat → Nat → Int} {ph : Nat → Int} (h : ToA tys M a oa ga dy cn dn wk wo so sq pp tt ph) (he : ∀ k, k < cn → sq' k = sq k) : ToA tys M a oa ga dy cn dn wk wo so sq' pp tt ph := by
  obtain ⟨h1, h2, h3, h4, h5⟩ := h
  refine ⟨h1, h2, h3, h4, fun k hk => ?_⟩
  rw [he k hk]
  exact h5 k hk
theorem sSq_lt {s : AS} {cn k : Nat} (c7 : s 0 0 7 = (cn : Int)) (hk : k < cn) : sSq s k = (s 6 0 k).toNat := by
  unfold sSq
  rw [if_pos (by omega)]
theorem sBef_pth {s : AS} {w cn g : Nat} (c7 : s 0 0 7 = (cn : Int)) (hg : g ≤ cn) : sBef (sSq s) (sPP s) (sHP s w) g = sPth s w cn g := by
  unfold sBef sPth
  by_cases e : g = 0
  · rw [if_neg (by omega), if_pos e]
  · rw [if_pos (by omega), if_neg e, if_pos hg, sSq_lt c7 (by omega)]
theorem sBeh_pth {s : AS} {w cn g : Nat} (c7 : s 0 0 7 = (cn : Int)) (hg : g ≤ cn) : sBeh (sSq s) (sPP s) (sHP s w) cn g = sPth s w cn (g + 1) := by
  unfold sBeh sPth
  rw [if_neg (by omega : ¬ g + 1 = 0)]
  by_cases e : g < cn
  · rw [if_pos e, if_pos (by omega), sSq_lt c7 e]; rfl
  · rw [if_neg e, if_neg (by omega)]
theorem sDet_b {s : AS} {np nl nt ns w cn p q : Nat} (hS : okS s np nl nt ns) (hw : w < ns) (hp : p < nt) (c7 : s 0 0 7 = (cn : Int)) (hq : ∀ k, k < cn → 0 ≤ s 6 0 k ∧ s 6 0 k < nt) : -10000 ≤ sDet nl (s 2) (sSq s) (sPP s) (sHP s w) cn (sPP s p) q ∧ sDet nl (s 2) (sSq s) (sPP s) (sHP s w) cn (sPP s p) q ≤ 10000 := by
  obtain ⟨-, -, -, okp, okl, okt, oku, -⟩ := hS
  have hP : ∀ k, k < nt → okP (sPP s k) := fun k hk => okp _ (by have := okt k hk; omega)
  have hH : okP (sHP s w) := okp _ (by have := oku w hw; omega)
  have hsq : ∀ k, sSq s k < nt := by
    intro k
    unfold sSq
    split
    · have := hq k (by omega)
      omega
    · omega
  have h1 : okP (sBef (sSq s) (sPP s) (sHP s w) q) := by
    unfold sBef
    split
    · exact hP _ (hsq _)
    · exact hH
  have h2 : okP (sBeh (sSq s) (sPP s) (sHP s w) cn q) := by
    unfold sBeh
    split
    · exact hP _ (hsq _)
    · exact hH
  unfold sDet
  have a1 := sWay_b (nl := nl) okl h1 (hP p hp)
  have a2 := sWay_b (nl := nl) okl (hP p hp) h2
  have a3 := sWay_b (nl := nl) okl h1 h2
  omega
theorem RT_put {M' : Wm} {s : AS} {nl nt ns to oa w ga cn dn p g b : Nat} {d : Int} {ge gt so so2 : Nat → Option Nat} (hw5 : s 0 0 5 = (w : Int)) (hwn : w < ns) (hge : ge w = some ga) (c7 : s 0 0 7 = (cn : Int)) (c8 : s 0 0 8 = (dn : Int)) (hcd : dn ≤ cn ∧ cn ≤ 20) (h6 : 0 ≤ s 0 0 6 ∧ s 0 0 6 ≤ 100000) (hlegs : ∀ k, k ≤ cn → ¬ sWay nl (s 2) (sPth s w cn k) (sPth s w cn (k + 1)) = -1) (c9 : s 0 0 9 = sWs s nl w cn (cn + 1)) (c10 : s 0 0 10 = sSum (fun k => s 3 (s 6 0 k).toNat 4) cn) (hso : ∀ k, k < cn → (0 ≤ s 6 0 k ∧ s 6 0 k < nt) ∧ so k = gt (s 6 0 k).toNat)
    (hp : p < nt) (hg : g ≤ cn) (hc : cn < 20) (w1 : ¬ sWay nl (s 2) (sPth s w cn g) (sPP s p) = -1) (w2 : ¬ sWay nl (s 2) (sPP s p) (sPth s w cn (g + 1)) = -1) (hd : d = sWay nl (s 2) (sPth s w cn g) (sPP s p) + sWay nl (s 2) (sPP s p) (sPth s w cn (g + 1)) - sWay nl (s 2) (sPth s w cn g) (sPth s w cn (g + 1))) (hso2 : ∀ j, so2 j = if j < g then so j else if j = g then some b else if j ≤ cn then so (j - 1) else so j) (hb : gt p = some b) (hM : M' to = some (oTo oa ga (s 0 0 6) (cn + 1) dn (s 0 0 9 + d) (s 0 0 10 + s 3 p 4))) : RT M' (sPut s p g d) nl nt ns to oa ge gt so2 := by
  have q6 : ∀ j, sPut s p g d 6 0 j = if j < g then s 6 0 j else if j = g then (p : Int) else s 6 0 (j - 1) := fun j => rfl
  have P1 : ∀ k, k ≤ g → sPth (sPut s p g d) w (cn + 1) k = sPth s w cn k := by
    intro k hk
    unfold sPth
    by_cases e : k = 0
    · rw [if_pos e, if_pos e]; rfl
    · rw [if_neg e, if_neg e, if_pos (show k ≤ cn + 1 by omega), if_pos (show k ≤ cn by omega), q6, if_pos (show k - 1 < g by omega)]; rfl
  have P2 : sPth (sPut s p g d) w (cn + 1) (g + 1) = sPP s p := by
    unfold sPth
    rw [if_neg (show ¬ g + 1 = 0 by omega), if_pos (show g + 1 ≤ cn + 1 by omega), q6, if_neg (show ¬ g + 1 - 1 < g by omega), if_pos (show g + 1 - 1 = g by omega)]
    rfl
  have P3 : ∀ k, g + 1 ≤ k → sPth (sPut s p g d) w (cn + 1) (k + 1) = sPth s w cn k := by
    intro k hk
    unfold sPth
    rw [if_neg (show ¬ k + 1 = 0 by omega), if_neg (show ¬ k = 0 by omega)]
    by_cases e : k ≤ cn
    · rw [if_pos (show k + 1 ≤ cn + 1 by omega), if_pos e, q6, if_neg (show ¬ k + 1 - 1 < g by omega), if_neg (show ¬ k + 1 - 1 = g by omega), show k + 1 - 1 - 1 = k - 1 by omega]; rfl
    · rw [if_neg (show ¬ k + 1 ≤ cn + 1 by omega), if_neg e]; rfl
  have e2 : sPut s p g d 2 = s 2 := rfl
  refine Or.inr ⟨w, ga, cn + 1, dn, hw5, hwn, hge, by show s 0 0 7 + 1 = _; omega, c8, by omega, h6, fun k hk => ?_, ?_, ?_, hM, fun k hk => ?_⟩
  · rw [e2]
    by_cases k1 : k < g
    · rw [P1 k (by omega), P1 (k + 1) (by omega)]; exact hlegs k (by omega)
    · by_cases k2 : k = g
      · subst k2; rw [P1 k (Nat.le_refl k), P2]; exact w1
      · by_cases k3 : k = g + 1
        · subst k3; rw [P2, P3 (g + 1) (Nat.le_refl _)]; exact w2
        · have e9 : k = (k - 1) + 1 := by omega
          rw [e9, P3 (k - 1) (by omega), P3 (k - 1 + 1) (by omega)]
          exact hlegs (k - 1) (by omega)
  · rw [sWs_lg, e2]
    have h := sLg_ins (nl := nl) (lf := s 2) P1 P2 P3 hd (cn - g)
    rw [show g + (cn - g) + 2 = cn + 1 + 1 by omega, show g + (cn - g) + 1 = cn + 1 by omega] at h
    rw [h, ← sWs_lg, ← c9]
    rfl
  · have h := sSum_ins (f := fun k => s 3 (s 6 0 k).toNat 4) (f' := fun k => s 3 (sPut s p g d 6 0 k).toNat 4) (g := g) (v := s 3 p 4) (fun k hk => by show s 3 (sPut s p g d 6 0 k).toNat 4 = _; rw [q6, if_pos hk]) (by show s 3 (sPut s p g d 6 0 g).toNat 4 = _; rw [q6, if_neg (by omega), if_pos rfl]; rfl) (fun k hk => by show s 3 (sPut s p g d 6 0 (k + 1)).toNat 4 = _; rw [q6, if_neg (by omega), if_neg (by omega)]; rfl) (cn - g)
    rw [show g + (cn - g) + 1 = cn + 1 by omega, show g + (cn - g) = cn by omega] at h
    show s 0 0 10 + s 3 p 4 = sSum (fun k => s 3 (sPut s p g d 6 0 k).toNat 4) (cn + 1)
    rw [h, c10]
  · rw [q6, hso2]
    by_cases k1 : k < g
    · rw [if_pos k1, if_pos k1]; exact hso k (by omega)
    · rw [if_neg k1, if_neg k1]
      by_cases k2 : k = g
      · rw [if_pos k2, if_pos k2]; exact ⟨by omega, hb.symm⟩
      · rw [if_neg k2, if_neg k2, if_pos (by omega)]
        exact hso (k - 1) (by omega)
