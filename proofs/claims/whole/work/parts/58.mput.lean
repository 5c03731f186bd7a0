/-! FOR THE MODEL'S told, put, late -/
theorem pth_hN {s : AS} {w cn h : Nat} (hh : s 4 w 2 = (h : Int)) (k : Nat) : sPth s w cn k = s 1 (hN s h cn (fun k_ => (s 6 0 k_).toNat) k) := by
  unfold sPth hN sHP sPP
  rw [hh]
  by_cases e0 : k = 0
  · rw [if_pos e0, if_pos e0]; rfl
  · rw [if_neg e0, if_neg e0]
    by_cases e1 : k ≤ cn
    · rw [if_pos e1, if_pos e1]
    · rw [if_neg e1, if_neg e1]; rfl
theorem sGap_cg {w1 w2 dt w1' w2' dt' : Nat → Int} {lo : Nat} (n : Nat) (h : ∀ g, lo ≤ g → g < lo + n → w1 g = w1' g ∧ w2 g = w2' g ∧ dt g = dt' g) : sGap w1 w2 dt lo n = sGap w1' w2' dt' lo n := by
  induction n with
  | zero => rfl
  | succ n ih =>
    obtain ⟨h1, h2, h3⟩ := h (lo + n) (by omega) (by omega)
    unfold sGap
    rw [ih (fun g hg hg2 => h g hg (by omega)), h1, h2, h3]
theorem wU_id {α : Type} {f : Nat → α} {k : Nat} : va_up f k (f k) = f := by
  funext j
  unfold va_up
  by_cases e : j = k
  · rw [if_pos e, e]
  · rw [if_neg e]
theorem bfc_0 {d : Nat → Int} {p : Nat} : bfc d 0 p = 0 := rfl
theorem bfc_s {d : Nat → Int} {n p : Nat} : (bf d n p → bfc d (n + 1) p = bfc d n p + 1) ∧ (¬ bf d n p → bfc d (n + 1) p = bfc d n p) := by
  unfold bfc
  rw [List.range_succ, List.countP_append]
  refine ⟨fun h => ?_, fun h => ?_⟩
  · rw [List.countP_cons_of_pos (p := fun j => decide (d j < d p) || (decide (d j = d p) && decide (j < p))) (bf_b.mpr h), List.countP_nil]
  · rw [List.countP_cons_of_neg (p := fun j => decide (d j < d p) || (decide (d j = d p) && decide (j < p))) (fun z => h (bf_b.mp z)), List.countP_nil]; rfl
theorem bfc_le {d : Nat → Int} (n p : Nat) : bfc d n p ≤ n := by
  unfold bfc
  have := List.countP_le_length (p := fun j => decide (d j < d p) || (decide (d j = d p) && decide (j < p))) (l := List.range n)
  rwa [List.length_range] at this
/-- the gaps of a tour by the numbers of places -/
theorem sGp_hN {s : AS} {nl w cn dn h ap i : Nat} (e2 : s 0 0 2 = (nl : Int)) (hw5 : s 0 0 5 = (w : Int)) (hc7 : s 0 0 7 = (cn : Int)) (hc8 : s 0 0 8 = (dn : Int)) (hcd : dn ≤ cn) (hh : s 4 w 2 = (h : Int)) (hap : s 3 i 9 = (ap : Int)) : sGp s i = sGap (fun g => sWay nl (s 2) (s 1 (hN s h cn (fun k_ => (s 6 0 k_).toNat) g)) (s 1 ap)) (fun g => sWay nl (s 2) (s 1 ap) (s 1 (hN s h cn (fun k_ => (s 6 0 k_).toNat) (g + 1)))) (fun g => sWay nl (s 2) (s 1 (hN s h cn (fun k_ => (s 6 0 k_).toNat) g)) (s 1 ap) + sWay nl (s 2) (s 1 ap) (s 1 (hN s h cn (fun k_ => (s 6 0 k_).toNat) (g + 1))) - sWay nl (s 2) (s 1 (hN s h cn (fun k_ => (s 6 0 k_).toNat) g)) (s 1 (hN s h cn (fun k_ => (s 6 0 k_).toNat) (g + 1)))) dn (cn + 1 - dn) := by
  unfold sGp
  have ep : sPP s i = s 1 ap := by
    unfold sPP
    rw [hap]
    rfl
  rw [show (s 0 0 2).toNat = nl by omega, show (s 0 0 5).toNat = w by omega, show (s 0 0 7).toNat = cn by omega, show (s 0 0 8).toNat = dn by omega, ep]
  refine sGap_cg _ (fun g h1 h2 => ?_)
  have b1 := sBef_pth (w := w) hc7 (show g ≤ cn by omega)
  have b2 := sBeh_pth (w := w) hc7 (show g ≤ cn by omega)
  rw [pth_hN hh] at b1 b2
  unfold sDet
  rw [b1, b2]
  exact ⟨rfl, rfl, rfl⟩
