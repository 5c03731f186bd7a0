/-! THE CLASS IS MADE: written by program (wip/whole/gen/ctor.py) -/
theorem up_none {M : Wm} {a q : Nat} {x : va_E} (h : va_up M a (some x) q = none) : M q = none ∧ q ≠ a := by
  unfold va_up at h
  by_cases e : q = a
  · rw [if_pos e] at h; cases h
  · rw [if_neg e] at h; exact ⟨h, e⟩
theorem ne_none {M : Wm} {a q : Nat} (h : M a = none) (hq : M q ≠ none) : q ≠ a := by
  intro e
  rw [e] at hq
  exact hq h
theorem some_nn {M : Wm} {q : Nat} {x : va_E} (h : M q = some x) : M q ≠ none := by
  rw [h]; exact fun z => nomatch z
set_option maxHeartbeats 4000000 in
set_option maxRecDepth 100000 in
theorem ct_Ho_init (l : Launch) (D : va_G) (tys : xK) (A : Nat → Prop) (M : Wm) (hT : tyOK tys) (a : Nat) (h : M a = some (.inr (0, [.null, .null, .int (iI 0), .int (iI 0)]))) : mT l y_Ho_init b_Ho_init 1 none { frames := 1, cells := 2, slots := 36, locals := 21 } D tys A [.ref a] M (qV D A (fun M' => ∃ pa la, (M pa = none ∧ M la = none ∧ pa ≠ la) ∧ M' pa = some (aR tys 2 30 (fun _ => none)) ∧ M' la = some (aR tys 3 6 (fun _ => none)) ∧ M' a = some (oHo pa la 0 0) ∧ ∀ q, q ≠ a → M q ≠ none → M' q = M q)) 2 36 := by
  refine met_of (own := R_Ho) (lv := [(0, .ref a)]) rfl (by decide) (Nat.le_of_ble_eq_true rfl) rfl ?_
  intro p_ e_ s_ m_ bl_ me_ c_ C hr hin
  have hT9 := hT
  obtain ⟨hT0, hT1, hT2, hT3, hT4, hT5, hT32, hT42, hT52, hT43, hT53, hT54⟩ := hT
  refine g_aload_n C d_Ho_init_0 0 rfl ?_
  refine g_objInit C oi_Ho_3 ⟨Nat.le_of_ble_eq_true rfl, Nat.le_of_ble_eq_true rfl⟩ d_Ho_init_1 ?_
  refine g_aload_n C d_Ho_init_4 0 rfl ?_
  refine g_bipush C d_Ho_init_5 (by decide) ?_
  refine g_newR C 2 hT2 30 na_Ho_9 ⟨by first | rfl | omega, by decide⟩ ⟨Nat.le_of_ble_eq_true rfl, Nat.le_of_ble_eq_true rfl⟩ d_Ho_init_7 (fun q1 hq1 => ?_)
  refine g_putF C hin p_Ho_11 ((wd_up_n (ne_new hq1 h)).trans h) rfl rfl (Nat.le_of_ble_eq_true rfl) (fs' := [.ref q1, .null, .int (iI 0), .int (iI 0)]) rfl d_Ho_init_10 ?_
  refine g_aload_n C d_Ho_init_13 0 rfl ?_
  refine g_bipush C d_Ho_init_14 (by decide) ?_
  refine g_newR C 3 hT3 6 na_Ho_17 ⟨by first | rfl | omega, by decide⟩ ⟨Nat.le_of_ble_eq_true rfl, Nat.le_of_ble_eq_true rfl⟩ d_Ho_init_16 (fun q2 hq2 => ?_)
  refine g_putF C hin p_Ho_19 ((wd_up_n (ne_new hq2 wd_up_s)).trans wd_up_s) rfl rfl (Nat.le_of_ble_eq_true rfl) (fs' := [.ref q1, .ref q2, .int (iI 0), .int (iI 0)]) rfl d_Ho_init_19 ?_
  refine g_aload_n C d_Ho_init_22 0 rfl ?_
  refine g_iconst C d_Ho_init_23 ?_
  refine g_put C p_Ho_23 wd_up_s rfl rfl (Nat.le_of_ble_eq_true rfl) (fs' := [.ref q1, .ref q2, .int (iI 0), .int (iI 0)]) rfl d_Ho_init_24 ?_
  refine g_world (bx_uu _ _ _ _) ?_
  refine g_aload_n C d_Ho_init_27 0 rfl ?_
  refine g_iconst C d_Ho_init_28 ?_
  refine g_put C p_Ho_27 wd_up_s rfl rfl (Nat.le_of_ble_eq_true rfl) (fs' := [.ref q1, .ref q2, .int (iI 0), .int (iI 0)]) rfl d_Ho_init_29 ?_
  refine g_world (bx_uu _ _ _ _) ?_
  exact g_vret C hr d_Ho_init_32 ⟨q1, q2, ⟨hq1, (up_none (up_none hq2).1).1, (ne_new hq2 ((wd_up_n (Ne.symm (ne_new hq1 h))).trans wd_up_s))⟩, ((wd_up_n (Ne.symm (ne_new hq1 h))).trans ((wd_up_n (ne_new hq2 ((wd_up_n (Ne.symm (ne_new hq1 h))).trans wd_up_s))).trans ((wd_up_n (Ne.symm (ne_new hq1 h))).trans wd_up_s))), ((wd_up_n (Ne.symm (ne_new hq2 wd_up_s))).trans wd_up_s), wd_up_s, (fun q hq hn => ((wd_up_n hq).trans ((wd_up_n (ne_none (up_none (up_none hq2).1).1 hn)).trans ((wd_up_n hq).trans (wd_up_n (ne_none hq1 hn))))))⟩
set_option maxHeartbeats 4000000 in
set_option maxRecDepth 100000 in
theorem ct_To_init (l : Launch) (D : va_G) (tys : xK) (A : Nat → Prop) (M : Wm) (hT : tyOK tys) (a : Nat) (h : M a = some (.inr (6, [.null, .null, .int (iI 0), .int (iI 0), .int (iI 0), .int (iI 0), .int (iI 0)]))) : mT l y_To_init b_To_init 1 none { frames := 1, cells := 1, slots := 20, locals := 21 } D tys A [.ref a] M (qV D A (fun M' => ∃ oa, (M oa = none) ∧ M' oa = some (aR tys 4 20 (fun _ => none)) ∧ M' a = some (.inr (6, [.ref oa, .null, .int (iI 0), .int (iI 0), .int (iI 0), .int (iI 0), .int (iI 0)])) ∧ ∀ q, q ≠ a → M q ≠ none → M' q = M q)) 1 20 := by
  refine met_of (own := R_To) (lv := [(0, .ref a)]) rfl (by decide) (Nat.le_of_ble_eq_true rfl) rfl ?_
  intro p_ e_ s_ m_ bl_ me_ c_ C hr hin
  have hT9 := hT
  obtain ⟨hT0, hT1, hT2, hT3, hT4, hT5, hT32, hT42, hT52, hT43, hT53, hT54⟩ := hT
  refine g_aload_n C d_To_init_0 0 rfl ?_
  refine g_objInit C oi_To_3 ⟨Nat.le_of_ble_eq_true rfl, Nat.le_of_ble_eq_true rfl⟩ d_To_init_1 ?_
  refine g_aload_n C d_To_init_4 0 rfl ?_
  refine g_bipush C d_To_init_5 (by decide) ?_
  refine g_newR C 4 hT4 20 na_To_9 ⟨by first | rfl | omega, by decide⟩ ⟨Nat.le_of_ble_eq_true rfl, Nat.le_of_ble_eq_true rfl⟩ d_To_init_7 (fun q1 hq1 => ?_)
  refine g_putF C hin p_To_11 ((wd_up_n (ne_new hq1 h)).trans h) rfl rfl (Nat.le_of_ble_eq_true rfl) (fs' := [.ref q1, .null, .int (iI 0), .int (iI 0), .int (iI 0), .int (iI 0), .int (iI 0)]) rfl d_To_init_10 ?_
  refine g_aload_n C d_To_init_13 0 rfl ?_
  refine g_null C d_To_init_14 ?_
  refine g_put C p_To_17 wd_up_s rfl rfl (Nat.le_of_ble_eq_true rfl) (fs' := [.ref q1, .null, .int (iI 0), .int (iI 0), .int (iI 0), .int (iI 0), .int (iI 0)]) rfl d_To_init_15 ?_
  refine g_world (bx_uu _ _ _ _) ?_
  refine g_aload_n C d_To_init_18 0 rfl ?_
  refine g_iconst C d_To_init_19 ?_
  refine g_put C p_To_21 wd_up_s rfl rfl (Nat.le_of_ble_eq_true rfl) (fs' := [.ref q1, .null, .int (iI 0), .int (iI 0), .int (iI 0), .int (iI 0), .int (iI 0)]) rfl d_To_init_20 ?_
  refine g_world (bx_uu _ _ _ _) ?_
  refine g_aload_n C d_To_init_23 0 rfl ?_
  refine g_iconst C d_To_init_24 ?_
  refine g_put C p_To_25 wd_up_s rfl rfl (Nat.le_of_ble_eq_true rfl) (fs' := [.ref q1, .null, .int (iI 0), .int (iI 0), .int (iI 0), .int (iI 0), .int (iI 0)]) rfl d_To_init_25 ?_
  refine g_world (bx_uu _ _ _ _) ?_
  refine g_aload_n C d_To_init_28 0 rfl ?_
  refine g_iconst C d_To_init_29 ?_
  refine g_put C p_To_28 wd_up_s rfl rfl (Nat.le_of_ble_eq_true rfl) (fs' := [.ref q1, .null, .int (iI 0), .int (iI 0), .int (iI 0), .int (iI 0), .int (iI 0)]) rfl d_To_init_30 ?_
  refine g_world (bx_uu _ _ _ _) ?_
  refine g_aload_n C d_To_init_33 0 rfl ?_
  refine g_iconst C d_To_init_34 ?_
  refine g_put C p_To_31 wd_up_s rfl rfl (Nat.le_of_ble_eq_true rfl) (fs' := [.ref q1, .null, .int (iI 0), .int (iI 0), .int (iI 0), .int (iI 0), .int (iI 0)]) rfl d_To_init_35 ?_
  refine g_world (bx_uu _ _ _ _) ?_
  refine g_aload_n C d_To_init_38 0 rfl ?_
  refine g_iconst C d_To_init_39 ?_
  refine g_put C p_To_34 wd_up_s rfl rfl (Nat.le_of_ble_eq_true rfl) (fs' := [.ref q1, .null, .int (iI 0), .int (iI 0), .int (iI 0), .int (iI 0), .int (iI 0)]) rfl d_To_init_40 ?_
  refine g_world (bx_uu _ _ _ _) ?_
  exact g_vret C hr d_To_init_43 ⟨q1, hq1, ((wd_up_n (Ne.symm (ne_new hq1 h))).trans wd_up_s), wd_up_s, (fun q hq hn => ((wd_up_n hq).trans (wd_up_n (ne_none hq1 hn))))⟩
set_option maxHeartbeats 4000000 in
set_option maxRecDepth 100000 in
theorem ct_Pn_init (l : Launch) (D : va_G) (tys : xK) (A : Nat → Prop) (M : Wm) (hT : tyOK tys) (a : Nat) (h : M a = some (.inr (5, [.null, .null, .null, .int (iI 0)]))) : mT l y_Pn_init b_Pn_init 1 none { frames := 1, cells := 3, slots := 1095, locals := 21 } D tys A [.ref a] M (qV D A (fun M' => ∃ ca ga ra, (M ca = none ∧ M ga = none ∧ M ra = none ∧ ca ≠ ga ∧ ca ≠ ra ∧ ga ≠ ra) ∧ M' ca = some (aR tys 4 7 (fun _ => none)) ∧ M' ga = some (aI tys 64 (fun _ => 0)) ∧ M' ra = some (aI tys 1024 (fun _ => 0)) ∧ M' a = some (.inr (5, [.ref ca, .ref ga, .ref ra, .int (iI 0)])) ∧ ∀ q, q ≠ a → M q ≠ none → M' q = M q)) 3 1095 := by
  refine met_of (own := R_Pn) (lv := [(0, .ref a)]) rfl (by decide) (Nat.le_of_ble_eq_true rfl) rfl ?_
  intro p_ e_ s_ m_ bl_ me_ c_ C hr hin
  have hT9 := hT
  obtain ⟨hT0, hT1, hT2, hT3, hT4, hT5, hT32, hT42, hT52, hT43, hT53, hT54⟩ := hT
  refine g_aload_n C d_Pn_init_0 0 rfl ?_
  refine g_objInit C oi_Pn_5 ⟨Nat.le_of_ble_eq_true rfl, Nat.le_of_ble_eq_true rfl⟩ d_Pn_init_1 ?_
  refine g_aload_n C d_Pn_init_4 0 rfl ?_
  refine g_bipush C d_Pn_init_5 (by decide) ?_
  refine g_newR C 4 hT4 7 na_Pn_11 ⟨by first | rfl | omega, by decide⟩ ⟨Nat.le_of_ble_eq_true rfl, Nat.le_of_ble_eq_true rfl⟩ d_Pn_init_7 (fun q1 hq1 => ?_)
  refine g_putF C hin p_Pn_13 ((wd_up_n (ne_new hq1 h)).trans h) rfl rfl (Nat.le_of_ble_eq_true rfl) (fs' := [.ref q1, .null, .null, .int (iI 0)]) rfl d_Pn_init_10 ?_
  refine g_aload_n C d_Pn_init_13 0 rfl ?_
  refine g_bipush C d_Pn_init_14 (by decide) ?_
  refine g_newI C 0 hT0 64 ac_int ⟨by first | rfl | omega, by decide⟩ ⟨Nat.le_of_ble_eq_true rfl, Nat.le_of_ble_eq_true rfl⟩ d_Pn_init_16 (fun q2 hq2 => ?_)
  refine g_putF C hin p_Pn_17 ((wd_up_n (ne_new hq2 wd_up_s)).trans wd_up_s) rfl rfl (Nat.le_of_ble_eq_true rfl) (fs' := [.ref q1, .ref q2, .null, .int (iI 0)]) rfl d_Pn_init_18 ?_
  refine g_aload_n C d_Pn_init_21 0 rfl ?_
  refine g_sipush C d_Pn_init_22 (by decide) ?_
  refine g_newI C 0 hT0 1024 ac_int ⟨by first | rfl | omega, by decide⟩ ⟨Nat.le_of_ble_eq_true rfl, Nat.le_of_ble_eq_true rfl⟩ d_Pn_init_25 (fun q3 hq3 => ?_)
  refine g_putF C hin p_Pn_21 ((wd_up_n (ne_new hq3 wd_up_s)).trans wd_up_s) rfl rfl (Nat.le_of_ble_eq_true rfl) (fs' := [.ref q1, .ref q2, .ref q3, .int (iI 0)]) rfl d_Pn_init_27 ?_
  refine g_aload_n C d_Pn_init_30 0 rfl ?_
  refine g_iconst C d_Pn_init_31 ?_
  refine g_put C p_Pn_24 wd_up_s rfl rfl (Nat.le_of_ble_eq_true rfl) (fs' := [.ref q1, .ref q2, .ref q3, .int (iI 0)]) rfl d_Pn_init_32 ?_
  refine g_world (bx_uu _ _ _ _) ?_
  exact g_vret C hr d_Pn_init_35 ⟨q1, q2, q3, ⟨hq1, (up_none (up_none hq2).1).1, (up_none (up_none (up_none (up_none hq3).1).1).1).1, (ne_new hq2 ((wd_up_n (Ne.symm (ne_new hq1 h))).trans wd_up_s)), (ne_new hq3 ((wd_up_n (Ne.symm (ne_new hq1 h))).trans ((wd_up_n (ne_new hq2 ((wd_up_n (Ne.symm (ne_new hq1 h))).trans wd_up_s))).trans ((wd_up_n (Ne.symm (ne_new hq1 h))).trans wd_up_s)))), (ne_new hq3 ((wd_up_n (Ne.symm (ne_new hq2 wd_up_s))).trans wd_up_s))⟩, ((wd_up_n (Ne.symm (ne_new hq1 h))).trans ((wd_up_n (ne_new hq3 ((wd_up_n (Ne.symm (ne_new hq1 h))).trans ((wd_up_n (ne_new hq2 ((wd_up_n (Ne.symm (ne_new hq1 h))).trans wd_up_s))).trans ((wd_up_n (Ne.symm (ne_new hq1 h))).trans wd_up_s))))).trans ((wd_up_n (Ne.symm (ne_new hq1 h))).trans ((wd_up_n (ne_new hq2 ((wd_up_n (Ne.symm (ne_new hq1 h))).trans wd_up_s))).trans ((wd_up_n (Ne.symm (ne_new hq1 h))).trans wd_up_s))))), ((wd_up_n (Ne.symm (ne_new hq2 wd_up_s))).trans ((wd_up_n (ne_new hq3 ((wd_up_n (Ne.symm (ne_new hq2 wd_up_s))).trans wd_up_s))).trans ((wd_up_n (Ne.symm (ne_new hq2 wd_up_s))).trans wd_up_s))), ((wd_up_n (Ne.symm (ne_new hq3 wd_up_s))).trans wd_up_s), wd_up_s, (fun q hq hn => ((wd_up_n hq).trans ((wd_up_n (ne_none (up_none (up_none (up_none (up_none hq3).1).1).1).1 hn)).trans ((wd_up_n hq).trans ((wd_up_n (ne_none (up_none (up_none hq2).1).1 hn)).trans ((wd_up_n hq).trans (wd_up_n (ne_none hq1 hn))))))))⟩
