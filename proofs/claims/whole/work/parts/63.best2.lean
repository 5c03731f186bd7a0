/-! THE BEST among the orders that were tried -/
theorem vld_of {nl : Nat} {lf pp : Nat → Nat → Int} {ph : Nat → Int} : ∀ (o : List Nat) (v : Nat → Int) (P : Nat → Nat → Int), P 0 = v → (∀ k, k < o.length → P (k + 1) = pp (o.getD k 0)) → P (o.length + 1) = ph → (∀ k, k ≤ o.length → ¬ sWay nl lf (P k) (P (k + 1)) = -1) → vld nl lf pp ph v o
  | [], v, P, h0, _, h2, hv => by
    have h3 : P 1 = ph := h2
    have := hv 0 (Nat.zero_le _)
    rw [h0, h3] at this
    exact this
  | a :: o, v, P, h0, h1, h2, hv => by
    have e1 : P 1 = pp a := h1 0 (by rw [List.length_cons]; omega)
    have g := hv 0 (Nat.zero_le _)
    rw [h0, e1] at g
    refine ⟨g, vld_of o (pp a) (fun k => P (k + 1)) e1 (fun k hk => by have := h1 (k + 1) (by rw [List.length_cons]; omega); rw [List.getD_cons_succ] at this; exact this) h2 (fun k hk => hv (k + 1) (by rw [List.length_cons]; omega))⟩
theorem sLg_b {nl : Nat} {lf P : Nat → Nat → Int} {n : Nat} (h : ∀ k, k < n → 0 ≤ sWay nl lf (P k) (P (k + 1)) ∧ sWay nl lf (P k) (P (k + 1)) ≤ 3500) : 0 ≤ sLg nl lf P n ∧ sLg nl lf P n ≤ 3500 * n := by
  induction n with
  | zero => unfold sLg; omega
  | succ n ih =>
    have h1 := ih (fun k hk => h k (by omega))
    have h2 := h n (by omega)
    unfold sLg
    omega
section BB
variable {nl : Nat} {lf pp : Nat → Nat → Int} {ph : Nat → Int} {S o o' bo : List Nat} {wk : Int}
def BI (nl : Nat) (lf pp : Nat → Nat → Int) (ph : Nat → Int) (S : List Nat) (Pr : List Nat → Prop) (wk : Int) (bo : List Nat) : Prop := (wk = -1 ∧ ∀ p : List Nat, p.Perm S → Pr p → ¬ vld nl lf pp ph ph p) ∨ (0 ≤ wk ∧ bo.Perm S ∧ vld nl lf pp ph ph bo ∧ wk = wls nl lf pp ph ph bo ∧ Pr bo ∧ ∀ p : List Nat, p.Perm S → Pr p → vld nl lf pp ph ph p → wk ≤ wls nl lf pp ph ph p ∧ (wls nl lf pp ph ph p = wk → lx bo p))
theorem BI_0 (ho : o.Perm S) (hs : o.Pairwise (fun a b => a < b)) : BI nl lf pp ph S (fun p => ll p o) (-1) bo :=
  Or.inl ⟨rfl, fun _ hp hl => (ll_no hl (mn hs (hp.trans ho.symm))).elim⟩
theorem BI_keep (ho : o.Perm S) (h : BI nl lf pp ph S (fun p => ll p o) wk bo) (hv : ¬ vld nl lf pp ph ph o) : BI nl lf pp ph S (fun p => lx p o) wk bo := by
  rcases h with ⟨h1, h2⟩ | ⟨h1, h2, h3, h4, h5, h6⟩
  · refine Or.inl ⟨h1, fun p hp hl => ?_⟩
    rcases lx_or (by rw [hp.length_eq, ho.length_eq]) hl with e | e
    · rw [e]; exact hv
    · exact h2 p hp e
  · refine Or.inr ⟨h1, h2, h3, h4, ll_lx h5, fun p hp hl hw => ?_⟩
    rcases lx_or (by rw [hp.length_eq, ho.length_eq]) hl with e | e
    · rw [e] at hw; exact absurd hw hv
    · exact h6 p hp e hw
theorem BI_worse (ho : o.Perm S) (h : BI nl lf pp ph S (fun p => ll p o) wk bo) (h0 : 0 ≤ wk) (hw : wk ≤ wls nl lf pp ph ph o) : BI nl lf pp ph S (fun p => lx p o) wk bo := by
  rcases h with ⟨h1, h2⟩ | ⟨h1, h2, h3, h4, h5, h6⟩
  · omega
  · refine Or.inr ⟨h1, h2, h3, h4, ll_lx h5, fun p hp hl hv => ?_⟩
    rcases lx_or (by rw [hp.length_eq, ho.length_eq]) hl with e | e
    · rw [e]; exact ⟨hw, fun _ => ll_lx h5⟩
    · exact h6 p hp e hv
theorem BI_better (ho : o.Perm S) (h : BI nl lf pp ph S (fun p => ll p o) wk bo) (hv : vld nl lf pp ph ph o) (h0 : 0 ≤ wls nl lf pp ph ph o) (hw : wk < 0 ∨ wls nl lf pp ph ph o < wk) : BI nl lf pp ph S (fun p => lx p o) (wls nl lf pp ph ph o) o := by
  refine Or.inr ⟨h0, ho, hv, rfl, lx_rf o, fun p hp hl hvp => ?_⟩
  rcases lx_or (by rw [hp.length_eq, ho.length_eq]) hl with e | e
  · rw [e]; exact ⟨Int.le_refl _, fun _ => lx_rf o⟩
  · rcases h with ⟨h1, h2⟩ | ⟨h1, h2, h3, h4, h5, h6⟩
    · exact absurd hvp (h2 p hp e)
    · have := (h6 p hp e hvp).1
      exact ⟨by omega, fun q => by omega⟩
theorem BI_next (ho : o.Perm S) (hs : SC o o') (h : BI nl lf pp ph S (fun p => lx p o) wk bo) : BI nl lf pp ph S (fun p => ll p o') wk bo := by
  have key : ∀ p : List Nat, p.Perm S → ll p o' → lx p o := by
    intro p hp hl
    rcases hs.2.2 p (hp.trans ho.symm) with e | e
    · exact e
    · exact (ll_no hl e).elim
  rcases h with ⟨h1, h2⟩ | ⟨h1, h2, h3, h4, h5, h6⟩
  · exact Or.inl ⟨h1, fun p hp hl => h2 p hp (key p hp hl)⟩
  · exact Or.inr ⟨h1, h2, h3, h4, lx_ll h5 hs.1 (by rw [h2.length_eq, ho.length_eq]), fun p hp hl => h6 p hp (key p hp hl)⟩
theorem BI_all (ho : o.Perm S) (hd : o.Pairwise (fun a b => b < a)) (h : BI nl lf pp ph S (fun p => lx p o) wk bo) : BI nl lf pp ph S (fun _ => True) wk bo := by
  have key : ∀ p : List Nat, p.Perm S → lx p o := fun p hp => mx hd (hp.trans ho.symm)
  rcases h with ⟨h1, h2⟩ | ⟨h1, h2, h3, h4, h5, h6⟩
  · exact Or.inl ⟨h1, fun p hp _ => h2 p hp (key p hp)⟩
  · exact Or.inr ⟨h1, h2, h3, h4, trivial, fun p hp _ => h6 p hp (key p hp)⟩
theorem BI_end (h : BI nl lf pp ph S (fun _ => True) wk bo) : (wk = -1 ∧ ¬ ∃ o W, Bst nl lf pp ph S o W) ∨ (0 ≤ wk ∧ Bst nl lf pp ph S bo wk) := by
  rcases h with ⟨h1, h2⟩ | ⟨h1, h2, h3, h4, h5, h6⟩
  · exact Or.inl ⟨h1, fun ⟨o, W, q⟩ => h2 o q.1 trivial q.2.1⟩
  · exact Or.inr ⟨h1, h2, h3, h4, fun p hp hv => h6 p hp trivial hv⟩
end BB
theorem insL {L : List Nat} {c r : Nat} (hs : L.Pairwise (fun a b => a < b)) (hc : c ∉ L) (hr : r ≤ L.length) (h1 : r = 0 ∨ L.getD (r - 1) 0 ≤ c) (h2 : ∀ j, r ≤ j → j < L.length → c < L.getD j 0) : (L.take r ++ c :: L.drop r).Pairwise (fun a b => a < b) := by
  have hs2 := hs
  rw [← List.take_append_drop r L, List.pairwise_append] at hs2
  obtain ⟨a1, a2, a3⟩ := hs2
  have t1 : ∀ a, a ∈ L.take r → a < c := by
    intro a ha
    obtain ⟨k, hk, e⟩ := List.mem_iff_getElem.mp ha
    rw [List.length_take] at hk
    rw [List.getElem_take] at e
    rcases h1 with h1 | h1
    · omega
    · rw [List.getD_eq_getElem?_getD, List.getElem?_eq_getElem (show r - 1 < L.length by omega)] at h1
      have h9 : L[r - 1]'(by omega) ≤ c := h1
      have h8 : L[r - 1]'(by omega) ≠ c := fun q => hc (q ▸ List.getElem_mem _)
      by_cases q : k = r - 1
      · subst q; rw [← e]; omega
      · have := List.pairwise_iff_getElem.mp hs k (r - 1) (by omega) (by omega) (by omega)
        rw [← e]
        omega
  have t2 : ∀ a, a ∈ L.drop r → c < a := by
    intro a ha
    obtain ⟨k, hk, e⟩ := List.mem_iff_getElem.mp ha
    rw [List.length_drop] at hk
    rw [List.getElem_drop] at e
    have g := h2 (r + k) (by omega) (by omega)
    rw [List.getD_eq_getElem?_getD, List.getElem?_eq_getElem (show r + k < L.length by omega)] at g
    rw [← e]
    exact g
  rw [List.pairwise_append, List.pairwise_cons]
  refine ⟨a1, ⟨t2, a2⟩, fun a ha b hb => ?_⟩
  rcases List.mem_cons.mp hb with rfl | hb
  · exact t1 a ha
  · exact a3 a ha b hb
theorem insP {L C : List Nat} {r k : Nat} (hp : L.Perm (C.take k)) (hk : k < C.length) : (L.take r ++ C.getD k 0 :: L.drop r).Perm (C.take (k + 1)) := by
  have h1 : (L.take r ++ C.getD k 0 :: L.drop r).Perm (C.getD k 0 :: (L.take r ++ L.drop r)) := List.perm_middle
  rw [List.take_append_drop] at h1
  rw [tk_1 hk]
  exact h1.trans ((hp.cons _).trans (List.perm_append_singleton _ _).symm)
theorem nin_tk {C : List Nat} {k : Nat} (h : C.Nodup) (hk : k < C.length) : C.getD k 0 ∉ C.take k := by
  intro hm
  obtain ⟨j, hj, e⟩ := List.mem_iff_getElem.mp hm
  rw [List.length_take] at hj
  rw [List.getElem_take] at e
  have := nd_inj h j k (by omega) hk (by rw [List.getD_eq_getElem?_getD, List.getElem?_eq_getElem (show j < C.length by omega)]; exact e)
  omega
theorem va_3 {f : Nat → Nat → Int} {g h g' : Nat → Int} : va_up (va_up (va_up f 25 g) 26 h) 25 g' = va_up (va_up f 25 g') 26 h := by
  funext j
  unfold va_up
  by_cases e : j = 25
  · subst e; rfl
  · by_cases e2 : j = 26
    · subst e2; rfl
    · rw [if_neg e, if_neg e2, if_neg e, if_neg e2, if_neg e]
theorem va_26 {f : Nat → Nat → Int} {g : Nat → Int} : va_up (va_up f 25 g) 26 (f 26) = va_up f 25 g := by
  funext j
  unfold va_up
  by_cases e : j = 26
  · subst e; rfl
  · rw [if_neg e]
theorem va_25 {f : Nat → Nat → Int} : va_up f 25 (f 25) = f := wU_id
theorem sf_cgL {u : Nat → Nat} {n : Nat} {L : List Nat} (hl : L.length = n) (h : ∀ k, k < n → u k = L.getD k 0) : sf u 0 n = L := by
  refine List.ext_getElem (by rw [sf_len]; omega) (fun i h1 h2 => ?_)
  rw [sf_len] at h1
  have g := sf_get (u := u) (n := n) (k := i) (by omega)
  rw [List.getD_eq_getElem?_getD, List.getElem?_eq_getElem (by rw [sf_len]; omega)] at g
  have g2 := h i (by omega)
  rw [List.getD_eq_getElem?_getD, List.getElem?_eq_getElem h2] at g2
  have g3 : (sf u 0 n)[i]'(by rw [sf_len]; omega) = u i := g
  have g4 : u i = L[i] := g2
  rw [g3, g4]
