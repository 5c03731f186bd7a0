/-! SORTED BY DUE DAYS, THEN NUMBERS -/
def bf (d : Nat → Int) (i j : Nat) : Prop := d i < d j ∨ (d i = d j ∧ i < j)
theorem bf_irr {d : Nat → Int} {i : Nat} (h : bf d i i) : False := by
  unfold bf at h
  omega
theorem bf_tr {d : Nat → Int} {i j k : Nat} (h : bf d i j) (h2 : bf d j k) : bf d i k := by
  unfold bf at *
  omega
theorem bf_tot {d : Nat → Int} {i j : Nat} (h : i ≠ j) : bf d i j ∨ bf d j i := by
  unfold bf
  omega
theorem bf_as {d : Nat → Int} {i j : Nat} (h : bf d i j) (h2 : bf d j i) : False := bf_irr (bf_tr h h2)
/-- how many of the first n are before p -/
def bfc (d : Nat → Int) (n p : Nat) : Nat := (List.range n).countP (fun j => decide (d j < d p) || (decide (d j = d p) && decide (j < p)))
theorem bf_b {d : Nat → Int} {j p : Nat} : (decide (d j < d p) || (decide (d j = d p) && decide (j < p))) = true ↔ bf d j p := by
  unfold bf
  simp
theorem bfc_at {d : Nat → Int} {n k p : Nat} {L : List Nat} (hp : L.Perm (List.range n)) (hs : L.Pairwise (bf d)) (hk : L[k]? = some p) : bfc d n p = k := by
  unfold bfc
  rw [← hp.countP_eq]
  obtain ⟨hlt, hg⟩ := List.getElem?_eq_some_iff.mp hk
  have hL : L = L.take k ++ p :: L.drop (k + 1) := by
    conv => lhs; rw [← List.take_append_drop k L, List.drop_eq_getElem_cons hlt, hg]
  have hs2 := hs
  rw [hL, List.pairwise_append, List.pairwise_cons] at hs2
  obtain ⟨-, ⟨h1, -⟩, h2⟩ := hs2
  rw [hL, List.countP_append, List.countP_cons]
  have e1 : List.countP (fun j => decide (d j < d p) || (decide (d j = d p) && decide (j < p))) (L.take k) = (L.take k).length := by
    rw [List.countP_eq_length]
    intro a ha
    exact bf_b.mpr (h2 a ha p List.mem_cons_self)
  have e2 : List.countP (fun j => decide (d j < d p) || (decide (d j = d p) && decide (j < p))) (L.drop (k + 1)) = 0 := by
    rw [List.countP_eq_zero]
    intro a ha hb
    exact bf_as (bf_b.mp hb) (h1 a ha)
  have e3 : ¬ (decide (d p < d p) || (decide (d p = d p) && decide (p < p))) = true := fun h => bf_irr (bf_b.mp h)
  rw [e1, e2, if_neg e3, List.length_take]
  omega
/-- one more part, laid behind those that are not due later -/
theorem ins_getD (L : List Nat) (r i k : Nat) (hr : r ≤ L.length) : (L.take r ++ i :: L.drop r).getD k 0 = if k < r then L.getD k 0 else if k = r then i else L.getD (k - 1) 0 := by
  have hl : (L.take r).length = r := by rw [List.length_take]; omega
  rw [List.getD_eq_getElem?_getD]
  by_cases h1 : k < r
  · rw [if_pos h1, List.getElem?_append_left (by omega), List.getElem?_take_of_lt h1, List.getD_eq_getElem?_getD]
  · rw [if_neg h1, List.getElem?_append_right (by omega), hl]
    by_cases h2 : k = r
    · rw [if_pos h2, h2, Nat.sub_self]; rfl
    · rw [if_neg h2, show k - r = (k - r - 1) + 1 by omega, List.getElem?_cons_succ, List.getElem?_drop, List.getD_eq_getElem?_getD, show r + (k - r - 1) = k - 1 by omega]
theorem ins_perm {L : List Nat} {r i : Nat} (h : L.Perm (List.range i)) : (L.take r ++ i :: L.drop r).Perm (List.range (i + 1)) := by
  have h1 : (L.take r ++ i :: L.drop r).Perm (i :: (L.take r ++ L.drop r)) := List.perm_middle
  rw [List.take_append_drop] at h1
  rw [List.range_succ]
  exact h1.trans ((List.Perm.cons i h).trans (List.perm_append_singleton i (List.range i)).symm)
theorem ins_sorted {d : Nat → Int} {L : List Nat} {r i : Nat} (hp : L.Perm (List.range i)) (hs : L.Pairwise (bf d)) (h1 : ∀ a ∈ L.take r, d a ≤ d i) (h2 : ∀ a ∈ L.drop r, d i < d a) : (L.take r ++ i :: L.drop r).Pairwise (bf d) := by
  have hs2 := hs
  rw [← List.take_append_drop r L, List.pairwise_append] at hs2
  obtain ⟨a1, a2, a3⟩ := hs2
  rw [List.pairwise_append, List.pairwise_cons]
  refine ⟨a1, ⟨fun b hb => Or.inl (h2 b hb), a2⟩, fun a ha b hb => ?_⟩
  rcases List.mem_cons.mp hb with rfl | hb
  · have hm : a ∈ List.range b := hp.mem_iff.mp (List.mem_of_mem_take ha)
    have := List.mem_range.mp hm
    have := h1 a ha
    unfold bf
    omega
  · exact a3 a ha b hb
theorem bf_le {d : Nat → Int} {i j : Nat} (h : bf d i j) : d i ≤ d j := by
  unfold bf at h
  omega
/-- the list's elements by their places -/
theorem gD_mem {L : List Nat} {k : Nat} (h : k < L.length) : L.getD k 0 ∈ L := by
  rw [List.getD_eq_getElem?_getD, List.getElem?_eq_getElem h]
  exact List.getElem_mem h
theorem tk_le {d : Nat → Int} {L : List Nat} {r : Nat} {x : Int} (hs : L.Pairwise (bf d)) (hr : r ≤ L.length) (h : r = 0 ∨ d (L.getD (r - 1) 0) ≤ x) : ∀ a ∈ L.take r, d a ≤ x := by
  intro a ha
  obtain ⟨k, hk, e⟩ := List.mem_iff_getElem.mp ha
  rw [List.length_take] at hk
  rw [List.getElem_take] at e
  rcases h with h | h
  · omega
  · rw [List.getD_eq_getElem?_getD, List.getElem?_eq_getElem (show r - 1 < L.length by omega)] at h
    have h9 : d (L[r - 1]'(by omega)) ≤ x := h
    by_cases q : k = r - 1
    · subst q; rw [← e]; exact h9
    · have := bf_le (List.pairwise_iff_getElem.mp hs k (r - 1) (by omega) (by omega) (by omega))
      rw [← e]
      omega
theorem dr_gt {d : Nat → Int} {L : List Nat} {r : Nat} {x : Int} (h : ∀ k, r ≤ k → k < L.length → x < d (L.getD k 0)) : ∀ a ∈ L.drop r, x < d a := by
  intro a ha
  obtain ⟨k, hk, e⟩ := List.mem_iff_getElem.mp ha
  rw [List.length_drop] at hk
  rw [List.getElem_drop] at e
  have h2 := h (r + k) (by omega) (by omega)
  rw [List.getD_eq_getElem?_getD, List.getElem?_eq_getElem (show r + k < L.length by omega)] at h2
  rw [← e]
  exact h2
/-- the parts of the house: their cells, places and numbers -/
def PsA (M : Wm) (nt : Nat) (gt : Nat → Option Nat) (pp tt : Nat → Nat → Int) : Prop := nt ≤ 40 ∧ ∀ k, k < nt → ∃ b, gt k = some b ∧ PtA M b (k : Int) (pp k) (tt k)
/-- the ranked ones -/
def Rk (d : Nat → Int) (n : Nat) (gt g : Nat → Option Nat) (L : List Nat) : Prop := L.Perm (List.range n) ∧ L.Pairwise (bf d) ∧ ∀ k, k < n → g k = gt (L.getD k 0)
theorem Rk.len {d : Nat → Int} {n : Nat} {gt g : Nat → Option Nat} {L : List Nat} (h : Rk d n gt g L) : L.length = n := by
  have := h.1.length_eq
  rwa [List.length_range] at this
theorem Rk.lt {d : Nat → Int} {n k : Nat} {gt g : Nat → Option Nat} {L : List Nat} (h : Rk d n gt g L) (hk : k < n) : L.getD k 0 < n := by
  have h1 := gD_mem (L := L) (k := k) (by rw [h.len]; exact hk)
  exact List.mem_range.mp (h.1.mem_iff.mp h1)
/-- while part i goes up to the rank r -/
def Ri (d : Nat → Int) (i r : Nat) (gt g : Nat → Option Nat) (L : List Nat) : Prop := r ≤ i ∧ (∀ k, k < r → g k = gt (L.getD k 0)) ∧ (∀ k, r < k → k ≤ i → g k = gt (L.getD (k - 1) 0)) ∧ ∀ k, r ≤ k → k < i → d i < d (L.getD k 0)
theorem Ri_0 {d : Nat → Int} {i : Nat} {gt g : Nat → Option Nat} {L : List Nat} (h : Rk d i gt g L) : Ri d i i gt g L := ⟨Nat.le_refl i, h.2.2, fun k h1 h2 => by omega, fun k h1 h2 => by omega⟩
theorem Ri_s {d : Nat → Int} {i r : Nat} {gt g : Nat → Option Nat} {L : List Nat} {b : Nat} (hr : 0 < r) (h : Ri d i r gt g L) (hd : d i < d (L.getD (r - 1) 0)) (hb : gt (L.getD (r - 1) 0) = some b) : Ri d i (r - 1) gt (va_up g r (some b)) L := by
  obtain ⟨h0, h1, h2, h3⟩ := h
  refine ⟨by omega, fun k hk => ?_, fun k hk hk2 => ?_, fun k hk hk2 => ?_⟩
  · unfold va_up; rw [if_neg (by omega)]; exact h1 k (by omega)
  · unfold va_up
    by_cases e : k = r
    · rw [if_pos e, e]; exact hb.symm
    · rw [if_neg e]; exact h2 k (by omega) hk2
  · by_cases e : k = r - 1
    · rw [e]; exact hd
    · exact h3 k (by omega) hk2
theorem Rk_s {d : Nat → Int} {i r : Nat} {gt g g0 : Nat → Option Nat} {L : List Nat} {b : Nat} (hR : Rk d i gt g0 L) (h : Ri d i r gt g L) (hd : r = 0 ∨ d (L.getD (r - 1) 0) ≤ d i) (hb : gt i = some b) : Rk d (i + 1) gt (va_up g r (some b)) (L.take r ++ i :: L.drop r) := by
  have hl := hR.len
  obtain ⟨h0, h1, h2, h3⟩ := h
  refine ⟨ins_perm hR.1, ins_sorted hR.1 hR.2.1 (tk_le hR.2.1 (by omega) hd) (dr_gt (fun k hk hk2 => h3 k hk (by omega))), fun k hk => ?_⟩
  rw [ins_getD L r i k (by omega)]
  unfold va_up
  by_cases e : k = r
  · rw [if_pos e, if_neg (by omega), if_pos e]; exact hb.symm
  · rw [if_neg e]
    by_cases e2 : k < r
    · rw [if_pos e2]; exact h1 k e2
    · rw [if_neg e2, if_neg e]; exact h2 k (by omega) (by omega)
