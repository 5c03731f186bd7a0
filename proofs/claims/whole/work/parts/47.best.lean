/-! THE LEAST WALKS, in the document's words -/
theorem sXY_cm (x y u v : Int) : sXY x y u v = sXY u v x y := by
  unfold sXY
  rw [sAbs_cm x u, sAbs_cm y v]
theorem sLift_cm (g p q : Nat → Int) : sLift g p q = sLift g q p := by
  unfold sLift
  rw [sAbs_cm (p 0) (q 0)]
  omega
theorem sWayL_cm (lf : Nat → Nat → Int) (p q : Nat → Int) (n : Nat) : sWayL lf p q n = sWayL lf q p n := by
  induction n with
  | zero => rfl
  | succ n ih =>
    unfold sWayL
    rw [ih, sLift_cm (lf n) p q]
    by_cases h : (lf n 2 ≤ p 0 ∧ p 0 ≤ lf n 3) ∧ (lf n 2 ≤ q 0 ∧ q 0 ≤ lf n 3)
    · rw [if_pos h, if_pos (show (lf n 2 ≤ q 0 ∧ q 0 ≤ lf n 3) ∧ (lf n 2 ≤ p 0 ∧ p 0 ≤ lf n 3) from ⟨h.2, h.1⟩)]
    · rw [if_neg h, if_neg (show ¬ ((lf n 2 ≤ q 0 ∧ q 0 ≤ lf n 3) ∧ (lf n 2 ≤ p 0 ∧ p 0 ≤ lf n 3)) from fun z => h ⟨z.2, z.1⟩)]
theorem sWay_cm (nl : Nat) (lf : Nat → Nat → Int) (p q : Nat → Int) : sWay nl lf p q = sWay nl lf q p := by
  unfold sWay
  rw [sWayL_cm lf p q nl, sXY_cm]
  by_cases h : p 0 = q 0
  · rw [if_pos h, if_pos h.symm]
  · rw [if_neg h, if_neg (fun z => h z.symm)]
theorem sWay_self (nl : Nat) (lf : Nat → Nat → Int) (p : Nat → Int) : sWay nl lf p p = 0 := by
  unfold sWay sXY
  rw [if_pos rfl]
  have h1 := sAbs_or (p 1) (p 1)
  have h2 := sAbs_or (p 2) (p 2)
  omega
def vld (nl : Nat) (lf pp : Nat → Nat → Int) (ph : Nat → Int) : (Nat → Int) → List Nat → Prop
  | v, [] => ¬ sWay nl lf v ph = -1
  | v, k :: o => ¬ sWay nl lf v (pp k) = -1 ∧ vld nl lf pp ph (pp k) o
def wls (nl : Nat) (lf pp : Nat → Nat → Int) (ph : Nat → Int) : (Nat → Int) → List Nat → Int
  | v, [] => sWay nl lf v ph
  | v, k :: o => sWay nl lf v (pp k) + wls nl lf pp ph (pp k) o
theorem cst_nn {L : Nat → Int} (hL : inB L) : ∀ (o : List Nat) (v : Nat), 0 ≤ cst L v o
  | [], v => (hL _).1
  | k :: o, v => by
    have h1 := cst_nn hL o k
    have h2 := hL (v * 8 + k)
    show 0 ≤ L (v * 8 + k) + cst L k o
    omega
theorem cst_w {nl n : Nat} {lf pp nd : Nat → Nat → Int} {ph : Nat → Int} {L : Nat → Int} {cq : Nat → Nat} (hLb : inB L) (hl : ∀ k, k < nl → okL (lf k)) (hP : ∀ v, (v = 7 ∨ v < n) → okP (nd v)) (h7 : nd 7 = ph) (hk : ∀ k, k < n → nd k = pp (cq k)) (hL : ∀ v k, (v = 7 ∨ v < n) → (k = 7 ∨ k < n) → L (v * 8 + k) = sLeg (sWay nl lf (nd v) (nd k))) : ∀ (o : List Nat) (v : Nat), (v = 7 ∨ v < n) → (∀ k, k ∈ o → k < n) → (vld nl lf pp ph (nd v) (o.map cq) → cst L v o = wls nl lf pp ph (nd v) (o.map cq) ∧ 0 ≤ cst L v o ∧ cst L v o ≤ 3500 * (o.length + 1)) ∧ (¬ vld nl lf pp ph (nd v) (o.map cq) → 1000000 ≤ cst L v o)
  | [], v, hv, _ => by
    have h1 := hL v 7 hv (Or.inl rfl)
    have h2 := sWay_b (nl := nl) hl (hP v hv) (hP 7 (Or.inl rfl))
    have h3 := sLeg_or (sWay nl lf (nd v) (nd 7))
    rw [h7] at h1 h2 h3
    refine ⟨fun h => ?_, fun h => ?_⟩
    · have h4 : ¬ sWay nl lf (nd v) ph = -1 := h
      show L (v * 8 + 7) = sWay nl lf (nd v) ph ∧ 0 ≤ L (v * 8 + 7) ∧ L (v * 8 + 7) ≤ 3500 * (((0 : Nat) : Int) + 1)
      omega
    · have h4 : ¬ ¬ sWay nl lf (nd v) ph = -1 := h
      show 1000000 ≤ L (v * 8 + 7)
      omega
  | k :: o, v, hv, ho => by
    have hkn : k < n := ho k List.mem_cons_self
    have h1 := hL v k hv (Or.inr hkn)
    have h2 := sWay_b (nl := nl) hl (hP v hv) (hP k (Or.inr hkn))
    have h3 := sLeg_or (sWay nl lf (nd v) (nd k))
    obtain ⟨i1, i2⟩ := cst_w hLb hl hP h7 hk hL o k (Or.inr hkn) (fun j hj => ho j (List.mem_cons_of_mem _ hj))
    have h5 := cst_nn hLb o k
    rw [hk k hkn] at h1 h2 h3 i1 i2
    refine ⟨fun h => ?_, fun h => ?_⟩
    · obtain ⟨h4, h6⟩ : ¬ sWay nl lf (nd v) (pp (cq k)) = -1 ∧ vld nl lf pp ph (pp (cq k)) (o.map cq) := h
      obtain ⟨j1, j2, j3⟩ := i1 h6
      show L (v * 8 + k) + cst L k o = sWay nl lf (nd v) (pp (cq k)) + wls nl lf pp ph (pp (cq k)) (o.map cq) ∧ 0 ≤ L (v * 8 + k) + cst L k o ∧ L (v * 8 + k) + cst L k o ≤ 3500 * (((o.length + 1 : Nat) : Int) + 1)
      omega
    · show 1000000 ≤ L (v * 8 + k) + cst L k o
      by_cases h4 : sWay nl lf (nd v) (pp (cq k)) = -1
      · omega
      · have h6 : ¬ vld nl lf pp ph (pp (cq k)) (o.map cq) := fun z => h ⟨h4, z⟩
        have := i2 h6
        omega
/-- o goes to all of S with the walks W, none with less, and is the first of those -/
def Bst (nl : Nat) (lf pp : Nat → Nat → Int) (ph : Nat → Int) (S o : List Nat) (W : Int) : Prop := o.Perm S ∧ vld nl lf pp ph ph o ∧ W = wls nl lf pp ph ph o ∧ ∀ o', o'.Perm S → vld nl lf pp ph ph o' → W ≤ wls nl lf pp ph ph o' ∧ (wls nl lf pp ph ph o' = W → lx o o')
theorem Bst_un {nl : Nat} {lf pp : Nat → Nat → Int} {ph : Nat → Int} {S o1 o2 : List Nat} {W1 W2 : Int} (h1 : Bst nl lf pp ph S o1 W1) (h2 : Bst nl lf pp ph S o2 W2) : o1 = o2 ∧ W1 = W2 := by
  obtain ⟨a1, a2, a3, a4⟩ := h1
  obtain ⟨b1, b2, b3, b4⟩ := h2
  obtain ⟨c1, c2⟩ := a4 o2 b1 b2
  obtain ⟨d1, d2⟩ := b4 o1 a1 a2
  have e : W1 = W2 := by omega
  refine ⟨lx_as ?_ (c2 (by omega)) (d2 (by omega)), e⟩
  rw [a1.length_eq, b1.length_eq]
theorem tk_map {C : List Nat} {m : Nat} (hm : m ≤ C.length) : (List.range m).map (fun k => C.getD k 0) = C.take m := by
  refine List.ext_getElem (by simp; omega) (fun i h1 h2 => ?_)
  rw [List.length_map, List.length_range] at h1
  rw [List.getElem_map, List.getElem_range, List.getElem_take, List.getD_eq_getElem?_getD, List.getElem?_eq_getElem (by omega)]
  rfl
theorem perm_map_ex {f : Nat → Nat} {l1 l2 : List Nat} (h : l1.Perm l2) : ∀ r : List Nat, l2 = r.map f → ∃ r' : List Nat, r'.Perm r ∧ l1 = r'.map f := by
  induction h with
  | nil =>
    intro r hr
    exact ⟨r, List.Perm.refl r, hr⟩
  | cons x h ih =>
    intro r hr
    cases r with
    | nil => cases hr
    | cons a r =>
      rw [List.map_cons] at hr
      obtain ⟨e1, e2⟩ := List.cons.inj hr
      obtain ⟨r', h1, h2⟩ := ih r e2
      exact ⟨a :: r', h1.cons a, by rw [List.map_cons, ← h2, e1]⟩
  | swap x y l =>
    intro r hr
    cases r with
    | nil => cases hr
    | cons a r =>
      cases r with
      | nil => cases hr
      | cons b r =>
        rw [List.map_cons, List.map_cons] at hr
        obtain ⟨e1, e2⟩ := List.cons.inj hr
        obtain ⟨e3, e4⟩ := List.cons.inj e2
        exact ⟨b :: a :: r, List.Perm.swap a b r, by rw [List.map_cons, List.map_cons, ← e1, ← e3, ← e4]⟩
  | trans h1 h2 ih1 ih2 =>
    intro r hr
    obtain ⟨r', g1, g2⟩ := ih2 r hr
    obtain ⟨r'', g3, g4⟩ := ih1 r' g2
    exact ⟨r'', g3.trans g1, g4⟩
theorem nd_inj {C : List Nat} (h : C.Nodup) : ∀ i j, i < C.length → j < C.length → C.getD i 0 = C.getD j 0 → i = j := by
  intro i j hi hj e
  rw [List.getD_eq_getElem?_getD, List.getD_eq_getElem?_getD, List.getElem?_eq_getElem hi, List.getElem?_eq_getElem hj] at e
  have e2 : C[i] = C[j] := e
  have hp := List.pairwise_iff_getElem.mp h
  rcases Nat.lt_trichotomy i j with q | q | q
  · exact absurd e2 (hp i j hi hj q)
  · exact q
  · exact absurd e2.symm (hp j i hj hi q)
section DB
variable {nl n : Nat} {lf pp nd : Nat → Nat → Int} {ph : Nat → Int} {L T : Nat → Int} {C : List Nat}
theorem dp_best (hn : n ≤ 7) (hC : C.length = n) (hnd : C.Nodup) (hLb : inB L) (hT : isT L T n (2 ^ n)) (hl : ∀ k, k < nl → okL (lf k)) (hP : ∀ v, (v = 7 ∨ v < n) → okP (nd v)) (h7 : nd 7 = ph) (hk : ∀ k, k < n → nd k = pp (C.getD k 0)) (hL : ∀ v k, (v = 7 ∨ v < n) → (k = 7 ∨ k < n) → L (v * 8 + k) = sLeg (sWay nl lf (nd v) (nd k))) {m : Nat} (hm : m ≤ n) (hf : T ((2 ^ m - 1) * 8 + 7) < 1000000) : ∃ o, Bst nl lf pp ph (C.take m) o (T ((2 ^ m - 1) * 8 + 7)) ∧ o.length = m ∧ ∀ k, k < m → o.getD k 0 = C.getD (sStep L T (fun k_ => ((C.getD k_ 0 : Nat) : Int)) n m k).toNat 0 := by
  obtain ⟨s1, s2, -⟩ := dp_sv (num := fun k_ => ((C.getD k_ 0 : Nat) : Int)) hn hLb hT hm hf 0 (Nat.zero_le m)
  have s1' : dm n (2 ^ m - 1) 7 := s1
  have s2' : (F7 (2 ^ m - 1)).length = m := s2
  have hS : 2 ^ m - 1 < 128 := by have := p2_le hn; have := s1'.1; omega
  obtain ⟨g1, g2, g3⟩ := dp_gr (cq := fun k_ => C.getD k_ 0) hn hLb hT (fun i j hi hj e => nd_inj hnd i j (by omega) (by omega) e) s1' s2' hf
  have g4 := gr_st (L := L) (T := T) (num := fun k_ => ((C.getD k_ 0 : Nat) : Int)) (n := n) (m := m)
  have hrm : ∀ oo, En (2 ^ m - 1) oo → oo.Perm (List.range m) := fun oo h => by
    have := (En_perm hS).mp h
    rwa [F7_ones m (by omega)] at this
  have hrn : ∀ oo, En (2 ^ m - 1) oo → ∀ k, k ∈ oo → k < n := fun oo h k hk => by
    have := List.mem_range.mp ((hrm oo h).mem_iff.mp hk)
    omega
  have hp := hrm _ g1
  have hw := cst_w hLb hl hP h7 hk hL _ 7 (Or.inl rfl) (hrn _ g1)
  rw [h7] at hw
  have hv : vld nl lf pp ph ph ((gr L T (fun k_ => ((C.getD k_ 0 : Nat) : Int)) n m (2 ^ m - 1) 7).map (fun k_ => C.getD k_ 0)) := by
    refine Classical.byContradiction (fun h => ?_)
    have := hw.2 h
    omega
  refine ⟨_, ⟨?_, hv, ?_, ?_⟩, ?_, ?_⟩
  · rw [← tk_map (by omega)]
    exact hp.map _
  · rw [← (hw.1 hv).1, g2]
  · intro o' ho hv'
    rw [← tk_map (by omega)] at ho
    obtain ⟨oo, q1, q2⟩ := perm_map_ex ho _ rfl
    have q3 : En (2 ^ m - 1) oo := (En_perm hS).mpr (by rw [F7_ones m (by omega)]; exact q1)
    have q4 := dp_le hn hT s1' q3
    have hw' := cst_w hLb hl hP h7 hk hL oo 7 (Or.inl rfl) (hrn _ q3)
    rw [h7, ← q2] at hw'
    have q5 := (hw'.1 hv').1
    refine ⟨by omega, fun e => ?_⟩
    rw [q2]
    exact g3 oo q3 (by omega)
  · rw [List.length_map, gr_len]
  · intro k hkm
    have h1 := g4 k 0 (by omega)
    rw [Nat.sub_zero, Nat.zero_add] at h1
    have h2 : (gr L T (fun k_ => ((C.getD k_ 0 : Nat) : Int)) n m (2 ^ m - 1) 7).getD k 0 = (sStep L T (fun k_ => ((C.getD k_ 0 : Nat) : Int)) n m k).toNat := h1
    rw [← h2, List.getD_eq_getElem?_getD, List.getD_eq_getElem?_getD (l := gr L T (fun k_ => ((C.getD k_ 0 : Nat) : Int)) n m (2 ^ m - 1) 7), List.getElem?_map, List.getElem?_eq_getElem (by rw [gr_len]; exact hkm)]
    rfl
theorem dp_only (hn : n ≤ 7) (hC : C.length = n) (hnd : C.Nodup) (hLb : inB L) (hT : isT L T n (2 ^ n)) (hl : ∀ k, k < nl → okL (lf k)) (hP : ∀ v, (v = 7 ∨ v < n) → okP (nd v)) (h7 : nd 7 = ph) (hk : ∀ k, k < n → nd k = pp (C.getD k 0)) (hL : ∀ v k, (v = 7 ∨ v < n) → (k = 7 ∨ k < n) → L (v * 8 + k) = sLeg (sWay nl lf (nd v) (nd k))) {m : Nat} (hm : m ≤ n) {o : List Nat} {W : Int} (hB : Bst nl lf pp ph (C.take m) o W) : W = T ((2 ^ m - 1) * 8 + 7) ∧ T ((2 ^ m - 1) * 8 + 7) < 1000000 := by
  have h1 : 2 ^ m ≤ 2 ^ n := Nat.pow_le_pow_right (by decide) hm
  have h2 : 0 < 2 ^ m := Nat.pow_pos (by decide)
  have h3 := p2_le hn
  have s1 : dm n (2 ^ m - 1) 7 := ⟨by omega, Or.inl rfl⟩
  have hS : 2 ^ m - 1 < 128 := by omega
  obtain ⟨b1, b2, b3, b4⟩ := id hB
  rw [← tk_map (by omega)] at b1
  obtain ⟨oo, q1, q2⟩ := perm_map_ex b1 _ rfl
  have q3 : En (2 ^ m - 1) oo := (En_perm hS).mpr (by rw [F7_ones m (by omega)]; exact q1)
  have q4 := dp_le hn hT s1 q3
  have hw' := cst_w hLb hl hP h7 hk hL oo 7 (Or.inl rfl) (fun k hk => by have := List.mem_range.mp (q1.mem_iff.mp hk); omega)
  rw [h7, ← q2] at hw'
  have q5 := hw'.1 b2
  have q6 : oo.length = m := by rw [q1.length_eq, List.length_range]
  have hf : T ((2 ^ m - 1) * 8 + 7) < 1000000 := by omega
  obtain ⟨o2, hB2, -⟩ := dp_best hn hC hnd hLb hT hl hP h7 hk hL hm hf
  exact ⟨(Bst_un hB hB2).2, hf⟩
end DB
theorem sStp_ok {T wk : Nat → Int} {sec : Int} (n : Nat) : (sStp T wk sec n = 0 ∨ (T ((2 ^ sStp T wk sec n - 1) * 8 + 7) < 1000000 ∧ T ((2 ^ sStp T wk sec n - 1) * 8 + 7) + sSum wk (sStp T wk sec n) ≤ sec)) ∧ ∀ j, sStp T wk sec n < j → j ≤ n → ¬ (T ((2 ^ j - 1) * 8 + 7) < 1000000 ∧ T ((2 ^ j - 1) * 8 + 7) + sSum wk j ≤ sec) := by
  induction n with
  | zero => exact ⟨Or.inl rfl, fun j h1 h2 => by omega⟩
  | succ n ih =>
    unfold sStp
    by_cases h : T ((2 ^ (n + 1) - 1) * 8 + 7) < 1000000 ∧ T ((2 ^ (n + 1) - 1) * 8 + 7) + sSum wk (n + 1) ≤ sec
    · rw [if_pos h]
      exact ⟨Or.inr h, fun j h1 h2 => by omega⟩
    · rw [if_neg h]
      refine ⟨ih.1, fun j h1 h2 => ?_⟩
      by_cases e : j = n + 1
      · subst e; exact h
      · exact ih.2 j h1 (by omega)
theorem sLg_sh {nl : Nat} {lf P : Nat → Nat → Int} (n : Nat) : sLg nl lf P (n + 1) = sWay nl lf (P 0) (P 1) + sLg nl lf (fun k => P (k + 1)) n := by
  induction n with
  | zero =>
    show (0 : Int) + sWay nl lf (P 0) (P 1) = sWay nl lf (P 0) (P 1) + 0
    omega
  | succ n ih =>
    rw [sLg.eq_2, ih, sLg.eq_2 nl lf (fun k => P (k + 1)) n]
    omega
theorem vld_lg {nl : Nat} {lf pp : Nat → Nat → Int} {ph : Nat → Int} : ∀ (o : List Nat) (v : Nat → Int) (P : Nat → Nat → Int), P 0 = v → (∀ k, k < o.length → P (k + 1) = pp (o.getD k 0)) → P (o.length + 1) = ph → vld nl lf pp ph v o → (∀ k, k ≤ o.length → ¬ sWay nl lf (P k) (P (k + 1)) = -1) ∧ wls nl lf pp ph v o = sLg nl lf P (o.length + 1)
  | [], v, P, h0, _, h2, hv => by
    have h3 : P 1 = ph := h2
    refine ⟨fun k hk => ?_, ?_⟩
    · have e : k = 0 := Nat.le_zero.mp hk
      subst e
      rw [h0, h3]
      exact hv
    · rw [sLg_sh, h0, List.length_nil, h3]
      show sWay nl lf v ph = sWay nl lf v ph + 0
      omega
  | a :: o, v, P, h0, h1, h2, hv => by
    obtain ⟨v1, v2⟩ : ¬ sWay nl lf v (pp a) = -1 ∧ vld nl lf pp ph (pp a) o := hv
    have e1 : P 1 = pp a := h1 0 (by rw [List.length_cons]; omega)
    obtain ⟨i1, i2⟩ := vld_lg o (pp a) (fun k => P (k + 1)) e1 (fun k hk => by have := h1 (k + 1) (by rw [List.length_cons]; omega); rw [List.getD_cons_succ] at this; exact this) h2 v2
    refine ⟨fun k hk => ?_, ?_⟩
    · cases k with
      | zero => rw [h0, e1]; exact v1
      | succ k => rw [List.length_cons] at hk; exact i1 k (by omega)
    · rw [List.length_cons, sLg_sh, h0, e1, ← i2]
      rfl
