/-! THE SEVEN MOST URGENT -/
theorem pos_ex {d : Nat → Int} (x : Int) : ∀ (E : List Nat), E.Pairwise (bf d) → ∃ r, r ≤ E.length ∧ (∀ a, a ∈ E.take r → d a ≤ x) ∧ (∀ a, a ∈ E.drop r → x < d a)
  | [], _ => ⟨0, Nat.le_refl _, fun a ha => by simp at ha, fun a ha => by simp at ha⟩
  | b :: E, hs => by
    obtain ⟨h1, h2⟩ := List.pairwise_cons.mp hs
    by_cases q : x < d b
    · refine ⟨0, Nat.zero_le _, fun a ha => by simp at ha, fun a ha => ?_⟩
      rw [List.drop_zero] at ha
      rcases List.mem_cons.mp ha with rfl | ha
      · exact q
      · have := bf_le (h1 a ha)
        omega
    · obtain ⟨r, g1, g2, g3⟩ := pos_ex x E h2
      refine ⟨r + 1, by rw [List.length_cons]; omega, fun a ha => ?_, fun a ha => ?_⟩
      · rw [List.take_succ_cons] at ha
        rcases List.mem_cons.mp ha with rfl | ha
        · omega
        · exact g2 a ha
      · rw [List.drop_succ_cons] at ha
        exact g3 a ha
theorem srt_ex (d : Nat → Int) : ∀ n, ∃ L : List Nat, L.Perm (List.range n) ∧ L.Pairwise (bf d)
  | 0 => ⟨[], List.Perm.refl _, List.Pairwise.nil⟩
  | n + 1 => by
    obtain ⟨L, h1, h2⟩ := srt_ex d n
    obtain ⟨r, g1, g2, g3⟩ := pos_ex (d n) L h2
    exact ⟨_, ins_perm (r := r) h1, ins_sorted h1 h2 g2 g3⟩
theorem bf_un {d : Nat → Int} {L1 L2 : List Nat} (h1 : L1.Pairwise (bf d)) (h2 : L2.Pairwise (bf d)) (hp : L1.Perm L2) : L1 = L2 :=
  hp.eq_of_pairwise (le := bf d) (fun _ _ _ _ g1 g2 => (bf_as g1 g2).elim) h1 h2
theorem sel_ins {d : Nat → Int} {E : List Nat} {k i n9 n' : Nat} {g g' : Nat → Int} (hE : ∀ a, a ∈ E → a < k) (hs : E.Pairwise (bf d)) (hn : n9 ≤ 7 ∧ n9 ≤ E.length ∧ (n9 = 7 ∨ n9 = E.length)) (hi : i ≤ n9) (h1 : ∀ j, j < i → g j = ((E.getD j 0 : Nat) : Int)) (h2 : ∀ j, i < j → j ≤ n9 → j < 7 → g j = ((E.getD (j - 1) 0 : Nat) : Int)) (h3 : ∀ j, i ≤ j → j < n9 → d k < d (E.getD j 0)) (h4 : i = 0 ∨ d (E.getD (i - 1) 0) ≤ d k) (hg : ∀ j, j < 7 → g' j = if j = i then (k : Int) else g j) (hn' : (n9 < 7 ∧ n' = n9 + 1) ∨ (n9 = 7 ∧ n' = 7)) : ∃ E' : List Nat, E'.Perm (k :: E) ∧ E'.Pairwise (bf d) ∧ (n' ≤ 7 ∧ n' ≤ E'.length ∧ (n' = 7 ∨ n' = E'.length)) ∧ ∀ j, j < n' → g' j = ((E'.getD j 0 : Nat) : Int) := by
  obtain ⟨r, r1, r2, r3⟩ := pos_ex (d k) E hs
  have hlt : ∀ j, j < E.length → (d k < d (E.getD j 0) ↔ r ≤ j) := by
    intro j hj
    constructor
    · intro q
      by_cases q2 : r ≤ j
      · exact q2
      · have hm : E.getD j 0 ∈ E.take r := by
          rw [List.getD_eq_getElem?_getD, List.getElem?_eq_getElem hj]
          refine List.mem_iff_getElem.mpr ⟨j, by rw [List.length_take]; omega, ?_⟩
          rw [List.getElem_take]
          rfl
        have := r2 _ hm
        omega
    · intro q
      refine r3 _ ?_
      rw [List.getD_eq_getElem?_getD, List.getElem?_eq_getElem hj]
      refine List.mem_iff_getElem.mpr ⟨j - r, by rw [List.length_drop]; omega, ?_⟩
      rw [List.getElem_drop]
      show E[r + (j - r)] = E[j]
      congr 1
      omega
  have hir : i ≤ r := by
    rcases h4 with h4 | h4
    · omega
    · by_cases q0 : i = 0
      · omega
      · have := hlt (i - 1) (by omega)
        by_cases q1 : r ≤ i - 1
        · have := this.mpr q1
          omega
        · omega
  have hri : i < n9 → r = i := by
    intro q
    have := (hlt i (by omega)).mp (h3 i (Nat.le_refl i) q)
    omega
  refine ⟨E.take r ++ k :: E.drop r, ?_, ?_, ?_, ?_⟩
  · have e1 : (E.take r ++ k :: E.drop r).Perm (k :: (E.take r ++ E.drop r)) := List.perm_middle
    rw [List.take_append_drop] at e1
    exact e1
  · have hs2 := hs
    rw [← List.take_append_drop r E, List.pairwise_append] at hs2
    obtain ⟨a1, a2, a3⟩ := hs2
    rw [List.pairwise_append, List.pairwise_cons]
    refine ⟨a1, ⟨fun b hb => Or.inl (r3 b hb), a2⟩, fun a ha b hb => ?_⟩
    rcases List.mem_cons.mp hb with rfl | hb
    · have q1 := hE a (List.mem_of_mem_take ha)
      have q2 := r2 a ha
      unfold bf
      omega
    · exact a3 a ha b hb
  · have : (E.take r ++ k :: E.drop r).length = E.length + 1 := by
      rw [List.length_append, List.length_cons, List.length_take, List.length_drop]
      omega
    omega
  · intro j hj
    rw [ins_getD E r k j r1, hg j (by omega)]
    by_cases e : j = i
    · subst e
      rw [if_pos rfl]
      by_cases q : j < n9
      · rw [hri q, if_neg (Nat.lt_irrefl _), if_pos rfl]
      · have : r = j := by omega
        rw [this, if_neg (Nat.lt_irrefl _), if_pos rfl]
    · rw [if_neg e]
      by_cases q : j < i
      · rw [if_pos (by omega)]
        exact h1 j q
      · have q2 : i < n9 := by omega
        rw [hri q2, if_neg (by omega), if_neg (by omega)]
        exact h2 j (by omega) (by omega) (by omega)
theorem fl_s {f : Nat → Bool} {k : Nat} : (f k = true → (List.range (k + 1)).filter f = (List.range k).filter f ++ [k]) ∧ (¬ f k = true → (List.range (k + 1)).filter f = (List.range k).filter f) := by
  rw [List.range_succ, List.filter_append]
  refine ⟨fun h => by rw [List.filter_cons_of_pos h]; rfl, fun h => by rw [List.filter_cons_of_neg h, List.filter_nil, List.append_nil]⟩
theorem isCh_of {s : AS} {w nt : Nat} {dy : Int} {E : List Nat} (e3 : s 0 0 3 = (nt : Int)) (hp : E.Perm ((List.range nt).filter (el (s 0 0 2).toNat (s 2) (sHP s w) (s 4 w) dy (sPP s) (s 3)))) (hs : E.Pairwise (bf (fun k => sDue (s 3 k)))) : isCh s w dy (E.take 7) := by
  obtain ⟨L, h1, h2⟩ := srt_ex (fun k => sDue (s 3 k)) nt
  refine ⟨L, by rw [show (s 0 0 3).toNat = nt by omega]; exact h1, h2, ?_⟩
  rw [bf_un hs (h2.filter _) (hp.trans (h1.filter _).symm)]
theorem va_4 {f : Nat → Nat → Int} {g5 g6 h5 h6 : Nat → Int} : va_up (va_up (va_up (va_up f 25 g5) 26 g6) 25 h5) 26 h6 = va_up (va_up f 25 h5) 26 h6 := by rw [va_3, bx_uu]
theorem va_56 {f : Nat → Nat → Int} {g4 : Nat → Int} : va_up (va_up (va_up f 24 g4) 25 (f 25)) 26 (f 26) = va_up f 24 g4 := by
  funext j
  unfold va_up
  by_cases e : j = 26
  · subst e; rfl
  · rw [if_neg e]
    by_cases e2 : j = 25
    · subst e2; rfl
    · rw [if_neg e2]
theorem va_23 {f : Nat → Nat → Int} {g4 g5 g6 : Nat → Int} : va_up (va_up (va_up (va_up f 24 g4) 25 g5) 26 g6) 23 (f 23) = va_up (va_up (va_up f 24 g4) 25 g5) 26 g6 := by
  funext j
  unfold va_up
  by_cases e : j = 23
  · subst e; rfl
  · rw [if_neg e]
theorem tk_getD {E : List Nat} {n k : Nat} (h : k < n) : (E.take n).getD k 0 = E.getD k 0 := by
  rw [List.getD_eq_getElem?_getD, List.getD_eq_getElem?_getD, List.getElem?_take_of_lt h]
