/-! THE TOUR UNDER WAY, on: written by program (wip/whole/gen/tour2.py) -/
theorem ins_step {so G : Nat → Option Nat} {cn i : Nat} {b1 : Nat} (hi : 0 < i ∧ i ≤ cn) (hG : ∀ j, G j = if i < j ∧ j ≤ cn then so (j - 1) else so j) (hb : so (i - 1) = some b1) : ∀ j, va_up G (i : Int).toNat (some b1) j = if i - 1 < j ∧ j ≤ cn then so (j - 1) else so j := by
  intro j
  unfold va_up
  rw [show (i : Int).toNat = i by omega]
  by_cases hj : j = i
  · rw [if_pos hj, if_pos (by omega), hj]; exact hb.symm
  · rw [if_neg hj, hG j]
    by_cases hj2 : i < j ∧ j ≤ cn
    · rw [if_pos hj2, if_pos (by omega)]
    · rw [if_neg hj2, if_neg (by omega)]
theorem ins_end {so G : Nat → Option Nat} {cn i g : Nat} {b : Nat} (hi : i = g ∧ g ≤ cn) (hG : ∀ j, G j = if i < j ∧ j ≤ cn then so (j - 1) else so j) : ∀ j, va_up G (g : Int).toNat (some b) j = if j < g then so j else if j = g then some b else if j ≤ cn then so (j - 1) else so j := by
  intro j
  unfold va_up
  rw [show (g : Int).toNat = g by omega]
  by_cases hj : j = g
  · rw [if_pos hj, if_neg (by omega), if_pos hj]
  · rw [if_neg hj, hG j]
    by_cases hj2 : i < j ∧ j ≤ cn
    · rw [if_pos hj2, if_neg (by omega), if_neg hj, if_pos (by omega)]
    · rw [if_neg hj2]
      by_cases hj3 : j < g
      · rw [if_pos hj3]
      · rw [if_neg hj3, if_neg hj, if_neg (by omega)]
set_option maxHeartbeats 4000000 in
set_option maxRecDepth 100000 in
theorem ct_To_isStop (l : Launch) (D : va_G) (tys : xK) (A : Nat → Prop) (M : Wm) (hT : tyOK tys) (a oa ga : Nat) (dy : Int) (cn dn : Nat) (wk wo : Int) (so : Nat → Option Nat) (sq : Nat → Nat) (pp tt : Nat → Nat → Int) (ph : Nat → Int) (hA : ToA tys M a oa ga dy cn dn wk wo so sq pp tt ph) (b np : Nat) (pb : Nat) (tb : Nat → Int) (hnp : np < 40) (hb : M b = some (oPt np pb tb)) : pT l y_To_isStop b_To_isStop 3 (some .boolean) { frames := 0, cells := 0, slots := 0, locals := 0 } D tys A [.ref a, .ref b] M (qP (fun z => (z = 1 ∧ ∃ k, k < cn ∧ sq k = np) ∨ (z = 0 ∧ ∀ k, k < cn → ¬ sq k = np))) := by
  refine met_of (own := R_To) (lv := [(0, .ref a), (1, .ref b)]) rfl (by decide) (Nat.le_of_ble_eq_true rfl) rfl ?_
  intro p_ e_ s_ m_ bl_ me_ c_ C hr hin
  have hA0 := hA
  obtain ⟨hto, hoa, ⟨hcn, hdn⟩, ⟨n0, u0, hph, hu0, ha0, hga, hha⟩, hel⟩ := hA
  obtain ⟨-, -, -, -, hT4, -⟩ := hT
  refine g_iconst C d_To_isStop_0 ?_
  refine g_istore_n (lv' := [(2, .int (iI 0)), (0, .ref a), (1, .ref b)]) C d_To_isStop_1 (by decide) rfl ?_
  refine g_sub [1, 2, 0] rfl (g_loop (σ := Nat) (fun x => cn - x) (fun x => (x ≤ cn) ∧ (∀ j, j < x → ¬ sq j = np)) (fun x => [(0, .ref a), (1, .ref b), (2, .int (iI ((x : Int))))]) (fun x => M) ?_ (0) (⟨Nat.zero_le _, lt_0⟩))
  intro x_ hI ih2
  obtain ⟨k, rfl⟩ : ∃ z, z = x_ := ⟨_, rfl⟩
  try dsimp only at hI ih2 ⊢
  obtain ⟨hk0, hne⟩ := hI
  refine g_iload_n C d_To_isStop_2 2 rfl ?_
  refine g_aload_n C d_To_isStop_3 0 rfl ?_
  refine g_get C f_To_25 hto rfl d_To_isStop_4 ?_
  refine g_icmp_ge C 34 d_To_isStop_7 rfl (by omega) (fun c1 => ?_) (fun c1 => ?_)
  · refine g_iconst C d_To_isStop_34 ?_
    exact g_zretP C hr (by omega) d_To_isStop_35 (Or.inr ⟨rfl, fun j hj => hne j (by omega)⟩)
  · obtain ⟨hs40, b1, hs1, hp1, ht1, pa1, hb1, hpa1⟩ := hel k (by omega)
    refine g_aload_n C d_To_isStop_10 0 rfl ?_
    refine g_get C f_To_11 hto rfl d_To_isStop_11 ?_
    refine g_iload_n C d_To_isStop_14 2 rfl ?_
    refine g_aald C 4 hT4 hoa (by omega) (by rw [show (k : Int).toNat = k by omega]; exact hs1) d_To_isStop_15 ?_
    refine g_get C f_To_40 hb1 rfl d_To_isStop_16 ?_
    refine g_aload_n C d_To_isStop_19 1 rfl ?_
    refine g_get C f_To_40 hb rfl d_To_isStop_20 ?_
    refine g_icmp_ne C 28 d_To_isStop_23 rfl (by omega) (fun c2 => ?_) (fun c2 => ?_)
    · refine g_iinc (lv' := [(2, .int (iI (((k : Int)) + 1))), (0, .ref a), (1, .ref b)]) C d_To_isStop_28 2 rfl (by decide) rfl ?_
      refine g_goto C 2 d_To_isStop_31 rfl ?_
      exact g_sub [1, 2, 0] rfl (ih2 (k + 1) ⟨by omega, lt_s hne (by omega)⟩ (by first | omega | (dsimp only; omega)))
    · refine g_iconst C d_To_isStop_26 ?_
      exact g_zretP C hr (by omega) d_To_isStop_27 (Or.inl ⟨rfl, k, by omega, by omega⟩)
set_option maxHeartbeats 4000000 in
set_option maxRecDepth 100000 in
theorem ct_To_insert (l : Launch) (D : va_G) (tys : xK) (A : Nat → Prop) (M : Wm) (hT : tyOK tys) (a oa : Nat) (go : Option Nat) (dy : Int) (cn : Nat) (dn wk wo : Int) (so : Nat → Option Nat) (g : Nat) (lg : Int) (b : Nat) (nb : Int) (pb : Nat) (tb : Nat → Int) (hg : g ≤ cn ∧ cn < 20) (hto : M a = some (.inr (6, [.ref oa, va_rf go, .int (iI dy), .int (iI ((cn : Int))), .int (iI dn), .int (iI wk), .int (iI wo)]))) (hoa : M oa = some (aR tys 4 20 so)) (hel : ∀ k, k < cn → ∃ b fs, so k = some b ∧ M b = some (.inr (2, fs))) (hb : M b = some (oPt nb pb tb)) : mT l y_To_insert b_To_insert 5 none { frames := 0, cells := 0, slots := 0, locals := 0 } D tys A [.ref a, .ref b, .int (iI ((g : Int))), .int (iI lg)] M (qV D A (fun M' => ∃ so2 : Nat → Option Nat, (∀ j, so2 j = if j < g then so j else if j = g then some b else if j ≤ cn then so (j - 1) else so j) ∧ M' = va_up (va_up M oa (some (.inl (tc tys 4, 20, .inr (.inr (.inr (.inr so2))))))) a (some (.inr (6, [.ref oa, va_rf go, .int (iI dy), .int (iI ((cn : Int) + 1)), .int (iI dn), .int (iI (wk + lg)), .int (iI (wo + tb 4))]))))) 0 0 := by
  refine met_of (own := R_To) (lv := [(0, .ref a), (1, .ref b), (2, .int (iI ((g : Int)))), (3, .int (iI lg))]) rfl (by decide) (Nat.le_of_ble_eq_true rfl) rfl ?_
  intro p_ e_ s_ m_ bl_ me_ c_ C hr hin
  obtain ⟨-, -, -, -, hT4, -⟩ := hT
  refine g_aload_n C d_To_insert_0 0 rfl ?_
  refine g_get C f_To_25 hto rfl d_To_insert_1 ?_
  refine g_istore (lv' := [(4, .int (iI ((cn : Int)))), (0, .ref a), (1, .ref b), (2, .int (iI ((g : Int)))), (3, .int (iI lg))]) C d_To_insert_4 (by decide) rfl ?_
  refine g_world (up_same hoa).symm ?_
  refine g_toX ?_
  refine g_sub [1, 2, 3, 4, 0] rfl (g_loop (σ := Nat × (Nat → Option Nat)) (fun x => x.1) (fun x => (g ≤ x.1 ∧ x.1 ≤ cn) ∧ (∀ j, x.2 j = if x.1 < j ∧ j ≤ cn then so (j - 1) else so j)) (fun x => [(0, .ref a), (1, .ref b), (2, .int (iI ((g : Int)))), (3, .int (iI lg)), (4, .int (iI ((x.1 : Int))))]) (fun x => (va_up M oa (some (.inl (tc tys 4, 20, .inr (.inr (.inr (.inr x.2)))))))) ?_ (cn, so) (⟨by omega, (fun j => by rw [if_neg (by omega)])⟩))
  intro x_ hI ih6
  obtain ⟨i, G⟩ := x_
  try dsimp only at hI ih6 ⊢
  obtain ⟨hi0, hG⟩ := hI
  refine g_iload C d_To_insert_6 4 rfl ?_
  refine g_iload_n C d_To_insert_8 2 rfl ?_
  refine g_icmp_le C 34 d_To_insert_9 rfl (by omega) (fun c1 => ?_) (fun c1 => ?_)
  · refine g_aload_n C d_To_insert_34 0 rfl ?_
    refine g_get C f_To_11 ((wd_up_n (ne_oa hto hoa)).trans hto) rfl d_To_insert_35 ?_
    refine g_iload_n C d_To_insert_38 2 rfl ?_
    refine g_aload_n C d_To_insert_39 1 rfl ?_
    refine g_aast C 4 hT4 rfl wd_up_s ((wd_up_n (ne_oa hb hoa)).trans hb) (by omega) d_To_insert_40 ?_
    refine g_world (bx_uu _ _ _ _) ?_
    refine g_aload_n C d_To_insert_41 0 rfl ?_
    refine g_dup C rfl d_To_insert_42 ?_
    refine g_get C f_To_25 ((wd_up_n (ne_oa hto hoa)).trans hto) rfl d_To_insert_43 ?_
    refine g_iconst C d_To_insert_46 ?_
    refine g_iadd C d_To_insert_47 ?_
    refine g_put C p_To_25 ((wd_up_n (ne_oa hto hoa)).trans hto) rfl rfl (Nat.le_of_ble_eq_true rfl) (fs' := [.ref oa, va_rf go, .int (iI dy), .int (iI (((cn : Int)) + 1)), .int (iI dn), .int (iI wk), .int (iI wo)]) rfl d_To_insert_48 ?_
    refine g_aload_n C d_To_insert_51 0 rfl ?_
    refine g_dup C rfl d_To_insert_52 ?_
    refine g_get C f_To_31 wd_up_s rfl d_To_insert_53 ?_
    refine g_iload_n C d_To_insert_56 3 rfl ?_
    refine g_iadd C d_To_insert_57 ?_
    refine g_put C p_To_31 wd_up_s rfl rfl (Nat.le_of_ble_eq_true rfl) (fs' := [.ref oa, va_rf go, .int (iI dy), .int (iI (((cn : Int)) + 1)), .int (iI dn), .int (iI (wk + lg)), .int (iI wo)]) rfl d_To_insert_58 ?_
    refine g_world (bx_uu _ _ _ _) ?_
    refine g_aload_n C d_To_insert_61 0 rfl ?_
    refine g_dup C rfl d_To_insert_62 ?_
    refine g_get C f_To_34 wd_up_s rfl d_To_insert_63 ?_
    refine g_aload_n C d_To_insert_66 1 rfl ?_
    refine g_get C f_To_43 ((wd_up_n (ne_oo hb hto (by decide))).trans ((wd_up_n (ne_oa hb hoa)).trans hb)) rfl d_To_insert_67 ?_
    refine g_iadd C d_To_insert_70 ?_
    refine g_put C p_To_34 wd_up_s rfl rfl (Nat.le_of_ble_eq_true rfl) (fs' := [.ref oa, va_rf go, .int (iI dy), .int (iI (((cn : Int)) + 1)), .int (iI dn), .int (iI (wk + lg)), .int (iI (wo + (tb 4)))]) rfl d_To_insert_71 ?_
    refine g_world (bx_uu _ _ _ _) ?_
    exact g_vret C hr d_To_insert_74 ⟨_, ins_end (by omega) hG, rfl⟩
  · obtain ⟨b1, fs1, hb1s, hb1⟩ := hel (i - 1) (by omega)
    refine g_aload_n C d_To_insert_12 0 rfl ?_
    refine g_get C f_To_11 ((wd_up_n (ne_oa hto hoa)).trans hto) rfl d_To_insert_13 ?_
    refine g_iload C d_To_insert_16 4 rfl ?_
    refine g_aload_n C d_To_insert_18 0 rfl ?_
    refine g_get C f_To_11 ((wd_up_n (ne_oa hto hoa)).trans hto) rfl d_To_insert_19 ?_
    refine g_iload C d_To_insert_22 4 rfl ?_
    refine g_iconst C d_To_insert_24 ?_
    refine g_isub C d_To_insert_25 ?_
    refine g_aald C 4 hT4 wd_up_s (by omega) (by rw [show ((i : Int) - 1).toNat = i - 1 by omega, hG, if_neg (by omega)]; exact hb1s) d_To_insert_26 ?_
    refine g_aast C 4 hT4 rfl wd_up_s ((wd_up_n (ne_oa hb1 hoa)).trans hb1) (by omega) d_To_insert_27 ?_
    refine g_world (bx_uu _ _ _ _) ?_
    refine g_iinc (lv' := [(4, .int (iI (((i : Int)) + (-1)))), (0, .ref a), (1, .ref b), (2, .int (iI ((g : Int)))), (3, .int (iI lg))]) C d_To_insert_28 4 rfl (by decide) rfl ?_
    refine g_goto C 6 d_To_insert_31 rfl ?_
    obtain ⟨G2, eG2⟩ : ∃ z : Nat → Option Nat, z = va_up G ((i : Int)).toNat (some b1) := ⟨_, rfl⟩
    rw [← eG2, show (i : Int) + (-1) = ((i - 1 : Nat) : Int) by omega]
    exact g_sub [1, 2, 3, 4, 0] rfl (ih6 (i - 1, G2) ⟨by omega, (by rw [eG2]; exact ins_step (by omega) hG hb1s)⟩ (by first | omega | (dsimp only; omega)))
