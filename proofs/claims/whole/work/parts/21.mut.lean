/-! SMALL MAKERS AND WRITERS of the class: written by program (wip/whole/gen/mut.py) -/
set_option maxHeartbeats 4000000 in
set_option maxRecDepth 100000 in
theorem ct_Pl_init (l : Launch) (D : va_G) (tys : xK) (A : Nat → Prop) (M : Wm) (a : Nat) (f x y : Int) (h : M a = some (.inr (4, [.int (iI 0), .int (iI 0), .int (iI 0)]))) : mT l y_Pl_init b_Pl_init 4 none { frames := 1, cells := 0, slots := 0, locals := 21 } D tys A [.ref a, .int (iI f), .int (iI x), .int (iI y)] M (qV D A (fun M' => M' = va_up M a (some (.inr (4, [.int (iI f), .int (iI x), .int (iI y)]))))) 0 0 := by
  refine met_of (own := R_Pl) (lv := [(0, .ref a), (1, .int (iI f)), (2, .int (iI x)), (3, .int (iI y))]) rfl (by decide) (Nat.le_of_ble_eq_true rfl) rfl ?_
  intro p_ e_ s_ m_ bl_ me_ c_ C hr hin
  refine g_aload_n C d_Pl_init_0 0 rfl ?_
  refine g_objInit C oi_Pl_1 ⟨Nat.le_of_ble_eq_true rfl, Nat.le_of_ble_eq_true rfl⟩ d_Pl_init_1 ?_
  refine g_aload_n C d_Pl_init_4 0 rfl ?_
  refine g_iload_n C d_Pl_init_5 1 rfl ?_
  refine g_putF C hin p_Pl_7 h rfl rfl (Nat.le_of_ble_eq_true rfl) (fs' := [.int (iI f), .int (iI 0), .int (iI 0)]) rfl d_Pl_init_6 ?_
  refine g_aload_n C d_Pl_init_9 0 rfl ?_
  refine g_iload_n C d_Pl_init_10 2 rfl ?_
  refine g_putF C hin p_Pl_13 wd_up_s rfl rfl (Nat.le_of_ble_eq_true rfl) (fs' := [.int (iI f), .int (iI x), .int (iI 0)]) rfl d_Pl_init_11 ?_
  refine g_world (bx_uu _ _ _ _) ?_
  refine g_aload_n C d_Pl_init_14 0 rfl ?_
  refine g_iload_n C d_Pl_init_15 3 rfl ?_
  refine g_putF C hin p_Pl_16 wd_up_s rfl rfl (Nat.le_of_ble_eq_true rfl) (fs' := [.int (iI f), .int (iI x), .int (iI y)]) rfl d_Pl_init_16 ?_
  refine g_world (bx_uu _ _ _ _) ?_
  exact g_vret C hr d_Pl_init_19 rfl
set_option maxHeartbeats 4000000 in
set_option maxRecDepth 100000 in
theorem ct_Li_init (l : Launch) (D : va_G) (tys : xK) (A : Nat → Prop) (M : Wm) (a : Nat) (u : Int) (v : Int) (w : Int) (x : Int) (y : Int) (z : Int) (h : M a = some (.inr (1, [.int (iI 0), .int (iI 0), .int (iI 0), .int (iI 0), .int (iI 0), .int (iI 0)]))) : mT l y_Li_init b_Li_init 7 none { frames := 1, cells := 0, slots := 0, locals := 21 } D tys A [.ref a, .int (iI u), .int (iI v), .int (iI w), .int (iI x), .int (iI y), .int (iI z)] M (qV D A (fun M' => M' = va_up M a (some (.inr (1, [.int (iI u), .int (iI v), .int (iI w), .int (iI x), .int (iI y), .int (iI z)]))))) 0 0 := by
  refine met_of (own := R_Li) (lv := [(0, .ref a), (1, .int (iI u)), (2, .int (iI v)), (3, .int (iI w)), (4, .int (iI x)), (5, .int (iI y)), (6, .int (iI z))]) rfl (by decide) (Nat.le_of_ble_eq_true rfl) rfl ?_
  intro p_ e_ s_ m_ bl_ me_ c_ C hr hin
  refine g_aload_n C d_Li_init_0 0 rfl ?_
  refine g_objInit C oi_Li_1 ⟨Nat.le_of_ble_eq_true rfl, Nat.le_of_ble_eq_true rfl⟩ d_Li_init_1 ?_
  refine g_aload_n C d_Li_init_4 0 rfl ?_
  refine g_iload_n C d_Li_init_5 1 rfl ?_
  refine g_putF C hin p_Li_7 h rfl rfl (Nat.le_of_ble_eq_true rfl) (fs' := [.int (iI u), .int (iI 0), .int (iI 0), .int (iI 0), .int (iI 0), .int (iI 0)]) rfl d_Li_init_6 ?_
  refine g_aload_n C d_Li_init_9 0 rfl ?_
  refine g_iload_n C d_Li_init_10 2 rfl ?_
  refine g_putF C hin p_Li_13 wd_up_s rfl rfl (Nat.le_of_ble_eq_true rfl) (fs' := [.int (iI u), .int (iI v), .int (iI 0), .int (iI 0), .int (iI 0), .int (iI 0)]) rfl d_Li_init_11 ?_
  refine g_world (bx_uu _ _ _ _) ?_
  refine g_aload_n C d_Li_init_14 0 rfl ?_
  refine g_iload_n C d_Li_init_15 3 rfl ?_
  refine g_putF C hin p_Li_16 wd_up_s rfl rfl (Nat.le_of_ble_eq_true rfl) (fs' := [.int (iI u), .int (iI v), .int (iI w), .int (iI 0), .int (iI 0), .int (iI 0)]) rfl d_Li_init_16 ?_
  refine g_world (bx_uu _ _ _ _) ?_
  refine g_aload_n C d_Li_init_19 0 rfl ?_
  refine g_iload C d_Li_init_20 4 rfl ?_
  refine g_putF C hin p_Li_19 wd_up_s rfl rfl (Nat.le_of_ble_eq_true rfl) (fs' := [.int (iI u), .int (iI v), .int (iI w), .int (iI x), .int (iI 0), .int (iI 0)]) rfl d_Li_init_22 ?_
  refine g_world (bx_uu _ _ _ _) ?_
  refine g_aload_n C d_Li_init_25 0 rfl ?_
  refine g_iload C d_Li_init_26 5 rfl ?_
  refine g_putF C hin p_Li_22 wd_up_s rfl rfl (Nat.le_of_ble_eq_true rfl) (fs' := [.int (iI u), .int (iI v), .int (iI w), .int (iI x), .int (iI y), .int (iI 0)]) rfl d_Li_init_28 ?_
  refine g_world (bx_uu _ _ _ _) ?_
  refine g_aload_n C d_Li_init_31 0 rfl ?_
  refine g_iload C d_Li_init_32 6 rfl ?_
  refine g_putF C hin p_Li_25 wd_up_s rfl rfl (Nat.le_of_ble_eq_true rfl) (fs' := [.int (iI u), .int (iI v), .int (iI w), .int (iI x), .int (iI y), .int (iI z)]) rfl d_Li_init_34 ?_
  refine g_world (bx_uu _ _ _ _) ?_
  exact g_vret C hr d_Li_init_37 rfl
set_option maxHeartbeats 4000000 in
set_option maxRecDepth 100000 in
theorem ct_Pt_init (l : Launch) (D : va_G) (tys : xK) (A : Nat → Prop) (M : Wm) (a : Nat) (n : Int) (pa : Nat) (t0 : Int) (t1 : Int) (t2 : Int) (t3 : Int) (t4 : Int) (h : M a = some (.inr (2, [.int (iI 0), .null, .int (iI 0), .int (iI 0), .int (iI 0), .int (iI 0), .int (iI 0), .int (iI 0), .int (iI 0), .int (iI 0), .int (iI 0)]))) : mT l y_Pt_init b_Pt_init 8 none { frames := 1, cells := 0, slots := 0, locals := 21 } D tys A [.ref a, .int (iI n), .ref pa, .int (iI t0), .int (iI t1), .int (iI t2), .int (iI t3), .int (iI t4)] M (qV D A (fun M' => M' = va_up M a (some (.inr (2, [.int (iI n), .ref pa, .int (iI t0), .int (iI t1), .int (iI t2), .int (iI t3), .int (iI t4), .int (iI 0), .int (iI 0), .int (iI 0), .int (iI ((-1)))]))))) 0 0 := by
  refine met_of (own := R_Pt) (lv := [(0, .ref a), (1, .int (iI n)), (2, .ref pa), (3, .int (iI t0)), (4, .int (iI t1)), (5, .int (iI t2)), (6, .int (iI t3)), (7, .int (iI t4))]) rfl (by decide) (Nat.le_of_ble_eq_true rfl) rfl ?_
  intro p_ e_ s_ m_ bl_ me_ c_ C hr hin
  refine g_aload_n C d_Pt_init_0 0 rfl ?_
  refine g_objInit C oi_Pt_3 ⟨Nat.le_of_ble_eq_true rfl, Nat.le_of_ble_eq_true rfl⟩ d_Pt_init_1 ?_
  refine g_aload_n C d_Pt_init_4 0 rfl ?_
  refine g_iconst C d_Pt_init_5 ?_
  refine g_put C p_Pt_9 h rfl rfl (Nat.le_of_ble_eq_true rfl) (fs' := [.int (iI 0), .null, .int (iI 0), .int (iI 0), .int (iI 0), .int (iI 0), .int (iI 0), .int (iI 0), .int (iI 0), .int (iI 0), .int (iI 0)]) rfl d_Pt_init_6 ?_
  refine g_aload_n C d_Pt_init_9 0 rfl ?_
  refine g_iconst C d_Pt_init_10 ?_
  refine g_put C p_Pt_15 wd_up_s rfl rfl (Nat.le_of_ble_eq_true rfl) (fs' := [.int (iI 0), .null, .int (iI 0), .int (iI 0), .int (iI 0), .int (iI 0), .int (iI 0), .int (iI 0), .int (iI 0), .int (iI 0), .int (iI 0)]) rfl d_Pt_init_11 ?_
  refine g_world (bx_uu _ _ _ _) ?_
  refine g_aload_n C d_Pt_init_14 0 rfl ?_
  refine g_iconst C d_Pt_init_15 ?_
  refine g_put C p_Pt_18 wd_up_s rfl rfl (Nat.le_of_ble_eq_true rfl) (fs' := [.int (iI 0), .null, .int (iI 0), .int (iI 0), .int (iI 0), .int (iI 0), .int (iI 0), .int (iI 0), .int (iI 0), .int (iI 0), .int (iI 0)]) rfl d_Pt_init_16 ?_
  refine g_world (bx_uu _ _ _ _) ?_
  refine g_aload_n C d_Pt_init_19 0 rfl ?_
  refine g_iconst C d_Pt_init_20 ?_
  refine g_put C p_Pt_21 wd_up_s rfl rfl (Nat.le_of_ble_eq_true rfl) (fs' := [.int (iI 0), .null, .int (iI 0), .int (iI 0), .int (iI 0), .int (iI 0), .int (iI 0), .int (iI 0), .int (iI 0), .int (iI 0), .int (iI ((-1)))]) rfl d_Pt_init_21 ?_
  refine g_world (bx_uu _ _ _ _) ?_
  refine g_aload_n C d_Pt_init_24 0 rfl ?_
  refine g_iload_n C d_Pt_init_25 1 rfl ?_
  refine g_putF C hin p_Pt_24 wd_up_s rfl rfl (Nat.le_of_ble_eq_true rfl) (fs' := [.int (iI n), .null, .int (iI 0), .int (iI 0), .int (iI 0), .int (iI 0), .int (iI 0), .int (iI 0), .int (iI 0), .int (iI 0), .int (iI ((-1)))]) rfl d_Pt_init_26 ?_
  refine g_world (bx_uu _ _ _ _) ?_
  refine g_aload_n C d_Pt_init_29 0 rfl ?_
  refine g_aload_n C d_Pt_init_30 2 rfl ?_
  refine g_putF C hin p_Pt_27 wd_up_s rfl rfl (Nat.le_of_ble_eq_true rfl) (fs' := [.int (iI n), .ref pa, .int (iI 0), .int (iI 0), .int (iI 0), .int (iI 0), .int (iI 0), .int (iI 0), .int (iI 0), .int (iI 0), .int (iI ((-1)))]) rfl d_Pt_init_31 ?_
  refine g_world (bx_uu _ _ _ _) ?_
  refine g_aload_n C d_Pt_init_34 0 rfl ?_
  refine g_iload_n C d_Pt_init_35 3 rfl ?_
  refine g_putF C hin p_Pt_31 wd_up_s rfl rfl (Nat.le_of_ble_eq_true rfl) (fs' := [.int (iI n), .ref pa, .int (iI t0), .int (iI 0), .int (iI 0), .int (iI 0), .int (iI 0), .int (iI 0), .int (iI 0), .int (iI 0), .int (iI ((-1)))]) rfl d_Pt_init_36 ?_
  refine g_world (bx_uu _ _ _ _) ?_
  refine g_aload_n C d_Pt_init_39 0 rfl ?_
  refine g_iload C d_Pt_init_40 4 rfl ?_
  refine g_putF C hin p_Pt_34 wd_up_s rfl rfl (Nat.le_of_ble_eq_true rfl) (fs' := [.int (iI n), .ref pa, .int (iI t0), .int (iI t1), .int (iI 0), .int (iI 0), .int (iI 0), .int (iI 0), .int (iI 0), .int (iI 0), .int (iI ((-1)))]) rfl d_Pt_init_42 ?_
  refine g_world (bx_uu _ _ _ _) ?_
  refine g_aload_n C d_Pt_init_45 0 rfl ?_
  refine g_iload C d_Pt_init_46 5 rfl ?_
  refine g_putF C hin p_Pt_37 wd_up_s rfl rfl (Nat.le_of_ble_eq_true rfl) (fs' := [.int (iI n), .ref pa, .int (iI t0), .int (iI t1), .int (iI t2), .int (iI 0), .int (iI 0), .int (iI 0), .int (iI 0), .int (iI 0), .int (iI ((-1)))]) rfl d_Pt_init_48 ?_
  refine g_world (bx_uu _ _ _ _) ?_
  refine g_aload_n C d_Pt_init_51 0 rfl ?_
  refine g_iload C d_Pt_init_52 6 rfl ?_
  refine g_putF C hin p_Pt_40 wd_up_s rfl rfl (Nat.le_of_ble_eq_true rfl) (fs' := [.int (iI n), .ref pa, .int (iI t0), .int (iI t1), .int (iI t2), .int (iI t3), .int (iI 0), .int (iI 0), .int (iI 0), .int (iI 0), .int (iI ((-1)))]) rfl d_Pt_init_54 ?_
  refine g_world (bx_uu _ _ _ _) ?_
  refine g_aload_n C d_Pt_init_57 0 rfl ?_
  refine g_iload C d_Pt_init_58 7 rfl ?_
  refine g_putF C hin p_Pt_43 wd_up_s rfl rfl (Nat.le_of_ble_eq_true rfl) (fs' := [.int (iI n), .ref pa, .int (iI t0), .int (iI t1), .int (iI t2), .int (iI t3), .int (iI t4), .int (iI 0), .int (iI 0), .int (iI 0), .int (iI ((-1)))]) rfl d_Pt_init_60 ?_
  refine g_world (bx_uu _ _ _ _) ?_
  exact g_vret C hr d_Pt_init_63 rfl
set_option maxHeartbeats 4000000 in
set_option maxRecDepth 100000 in
theorem ct_Pe_init (l : Launch) (D : va_G) (tys : xK) (A : Nat → Prop) (M : Wm) (a : Nat) (n : Int) (s0 : Int) (ha : Nat) (s1 : Int) (h : M a = some (.inr (3, [.int (iI 0), .int (iI 0), .null, .int (iI 0)]))) : mT l y_Pe_init b_Pe_init 5 none { frames := 1, cells := 0, slots := 0, locals := 21 } D tys A [.ref a, .int (iI n), .int (iI s0), .ref ha, .int (iI s1)] M (qV D A (fun M' => M' = va_up M a (some (.inr (3, [.int (iI n), .int (iI s0), .ref ha, .int (iI s1)]))))) 0 0 := by
  refine met_of (own := R_Pe) (lv := [(0, .ref a), (1, .int (iI n)), (2, .int (iI s0)), (3, .ref ha), (4, .int (iI s1))]) rfl (by decide) (Nat.le_of_ble_eq_true rfl) rfl ?_
  intro p_ e_ s_ m_ bl_ me_ c_ C hr hin
  refine g_aload_n C d_Pe_init_0 0 rfl ?_
  refine g_objInit C oi_Pe_1 ⟨Nat.le_of_ble_eq_true rfl, Nat.le_of_ble_eq_true rfl⟩ d_Pe_init_1 ?_
  refine g_aload_n C d_Pe_init_4 0 rfl ?_
  refine g_iload_n C d_Pe_init_5 1 rfl ?_
  refine g_putF C hin p_Pe_7 h rfl rfl (Nat.le_of_ble_eq_true rfl) (fs' := [.int (iI n), .int (iI 0), .null, .int (iI 0)]) rfl d_Pe_init_6 ?_
  refine g_aload_n C d_Pe_init_9 0 rfl ?_
  refine g_iload_n C d_Pe_init_10 2 rfl ?_
  refine g_putF C hin p_Pe_13 wd_up_s rfl rfl (Nat.le_of_ble_eq_true rfl) (fs' := [.int (iI n), .int (iI s0), .null, .int (iI 0)]) rfl d_Pe_init_11 ?_
  refine g_world (bx_uu _ _ _ _) ?_
  refine g_aload_n C d_Pe_init_14 0 rfl ?_
  refine g_aload_n C d_Pe_init_15 3 rfl ?_
  refine g_putF C hin p_Pe_16 wd_up_s rfl rfl (Nat.le_of_ble_eq_true rfl) (fs' := [.int (iI n), .int (iI s0), .ref ha, .int (iI 0)]) rfl d_Pe_init_16 ?_
  refine g_world (bx_uu _ _ _ _) ?_
  refine g_aload_n C d_Pe_init_19 0 rfl ?_
  refine g_iload C d_Pe_init_20 4 rfl ?_
  refine g_putF C hin p_Pe_20 wd_up_s rfl rfl (Nat.le_of_ble_eq_true rfl) (fs' := [.int (iI n), .int (iI s0), .ref ha, .int (iI s1)]) rfl d_Pe_init_22 ?_
  refine g_world (bx_uu _ _ _ _) ?_
  exact g_vret C hr d_Pe_init_25 rfl
set_option maxHeartbeats 4000000 in
set_option maxRecDepth 100000 in
theorem ct_Ho_hasPlace (l : Launch) (D : va_G) (tys : xK) (A : Nat → Prop) (M : Wm) (h pa la np nl : Nat) (z0 : Int) (h0 : (-2147483648 ≤ z0 ∧ z0 < 2147483648)) (hn : np ≤ 30) (hh : M h = some (.inr (0, [.ref pa, .ref la, .int (iI ((np : Int))), .int (iI ((nl : Int)))]))) : pT l y_Ho_hasPlace b_Ho_hasPlace 2 (some .boolean) { frames := 1, cells := 0, slots := 0, locals := 22 } D tys A [.ref h, .int (iI z0)] M (qP (fun z => (z = 1 ∧ 0 ≤ z0 ∧ z0 < np) ∨ (z = 0 ∧ ¬ (0 ≤ z0 ∧ z0 < np)))) := by
  refine met_of (own := R_Ho) (lv := [(0, .ref h), (1, .int (iI z0))]) rfl (by decide) (Nat.le_of_ble_eq_true rfl) rfl ?_
  intro p_ e_ s_ m_ bl_ me_ c_ C hr hin
  refine g_iload_n C d_Ho_hasPlace_0 1 rfl ?_
  refine g_iconst C d_Ho_hasPlace_1 ?_
  refine g_aload_n C d_Ho_hasPlace_2 0 rfl ?_
  refine g_get C f_Ho_23 hh rfl d_Ho_hasPlace_3 ?_
  refine g_iconst C d_Ho_hasPlace_6 ?_
  refine g_isub C d_Ho_hasPlace_7 ?_
  refine g_calliP C (run_S C [.int (iI z0), .int (iI 0), .int (iI (((np : Int)) - 1))] k_Ho_30 (ct_Ct_within l D tys A M z0 0 (((np : Int)) - 1) (by omega)) ⟨rfl, rfl, Nat.le_of_ble_eq_true rfl, Nat.le_of_ble_eq_true rfl⟩ rfl rfl (Nat.le_of_ble_eq_true rfl) d_Ho_hasPlace_8 ⟨Nat.le_of_ble_eq_true rfl, Nat.le_of_ble_eq_true rfl⟩) (fun z1 hz1 => ?_)
  exact g_zretP C hr (by omega) d_Ho_hasPlace_11 (by omega)
set_option maxHeartbeats 4000000 in
set_option maxRecDepth 100000 in
theorem ct_Ho_addPlace (l : Launch) (D : va_G) (tys : xK) (A : Nat → Prop) (M : Wm) (hT : tyOK tys) (h pa la np nl a : Nat) (g : Nat → Option Nat) (fs : List Value) (hn : np < 30) (hh : M h = some (.inr (0, [.ref pa, .ref la, .int (iI ((np : Int))), .int (iI ((nl : Int)))]))) (hg : M pa = some (.inl (tc tys 2, 30, .inr (.inr (.inr (.inr g)))))) (ha : M a = some (.inr (4, fs))) : mT l y_Ho_addPlace b_Ho_addPlace 3 (some .int) { frames := 0, cells := 0, slots := 0, locals := 0 } D tys A [.ref h, .ref a] M (qI D A (fun z M' => z = (np : Int) ∧ M' = va_up (va_up M pa (some (.inl (tc tys 2, 30, .inr (.inr (.inr (.inr (va_up g (np : Int).toNat (some a))))))))) h (some (.inr (0, [.ref pa, .ref la, .int (iI ((np : Int) + 1)), .int (iI ((nl : Int)))]))))) 0 0 := by
  refine met_of (own := R_Ho) (lv := [(0, .ref h), (1, .ref a)]) rfl (by decide) (Nat.le_of_ble_eq_true rfl) rfl ?_
  intro p_ e_ s_ m_ bl_ me_ c_ C hr hin
  obtain ⟨-, -, hT2, hT3, -⟩ := hT
  refine g_aload_n C d_Ho_addPlace_0 0 rfl ?_
  refine g_get C f_Ho_23 hh rfl d_Ho_addPlace_1 ?_
  refine g_istore_n (lv' := [(2, .int (iI ((np : Int)))), (0, .ref h), (1, .ref a)]) C d_Ho_addPlace_4 (by decide) rfl ?_
  refine g_aload_n C d_Ho_addPlace_5 1 rfl ?_
  refine g_get C f_Ho_11 hh rfl d_Ho_addPlace_6 ?_
  refine g_iload_n C d_Ho_addPlace_9 0 rfl ?_
  refine g_aload_n C d_Ho_addPlace_10 2 rfl ?_
  refine g_aast C 2 hT2 rfl hg ha (by omega) d_Ho_addPlace_11 ?_
  refine g_aload_n C d_Ho_addPlace_12 1 rfl ?_
  refine g_dup C rfl d_Ho_addPlace_13 ?_
  refine g_get C f_Ho_23 ((wd_up_n (ne_oa hh hg)).trans hh) rfl d_Ho_addPlace_14 ?_
  refine g_iconst C d_Ho_addPlace_17 ?_
  refine g_iadd C d_Ho_addPlace_18 ?_
  refine g_put C p_Ho_23 ((wd_up_n (ne_oa hh hg)).trans hh) rfl rfl (Nat.le_of_ble_eq_true rfl) (fs' := [.ref pa, .ref la, .int (iI (((np : Int)) + 1)), .int (iI ((nl : Int)))]) rfl d_Ho_addPlace_19 ?_
  refine g_iload_n C d_Ho_addPlace_22 0 rfl ?_
  exact g_iret C hr d_Ho_addPlace_23 ⟨rfl, rfl⟩
set_option maxHeartbeats 4000000 in
set_option maxRecDepth 100000 in
theorem ct_Ho_addLift (l : Launch) (D : va_G) (tys : xK) (A : Nat → Prop) (M : Wm) (hT : tyOK tys) (h pa la np nl a : Nat) (g : Nat → Option Nat) (fs : List Value) (hn : nl < 6) (hh : M h = some (.inr (0, [.ref pa, .ref la, .int (iI ((np : Int))), .int (iI ((nl : Int)))]))) (hg : M la = some (.inl (tc tys 3, 6, .inr (.inr (.inr (.inr g)))))) (ha : M a = some (.inr (1, fs))) : mT l y_Ho_addLift b_Ho_addLift 3 (some .int) { frames := 0, cells := 0, slots := 0, locals := 0 } D tys A [.ref h, .ref a] M (qI D A (fun z M' => z = (nl : Int) ∧ M' = va_up (va_up M la (some (.inl (tc tys 3, 6, .inr (.inr (.inr (.inr (va_up g (nl : Int).toNat (some a))))))))) h (some (.inr (0, [.ref pa, .ref la, .int (iI ((np : Int))), .int (iI ((nl : Int) + 1))]))))) 0 0 := by
  refine met_of (own := R_Ho) (lv := [(0, .ref h), (1, .ref a)]) rfl (by decide) (Nat.le_of_ble_eq_true rfl) rfl ?_
  intro p_ e_ s_ m_ bl_ me_ c_ C hr hin
  obtain ⟨-, -, hT2, hT3, -⟩ := hT
  refine g_aload_n C d_Ho_addLift_0 0 rfl ?_
  refine g_get C f_Ho_27 hh rfl d_Ho_addLift_1 ?_
  refine g_istore_n (lv' := [(2, .int (iI ((nl : Int)))), (0, .ref h), (1, .ref a)]) C d_Ho_addLift_4 (by decide) rfl ?_
  refine g_aload_n C d_Ho_addLift_5 1 rfl ?_
  refine g_get C f_Ho_19 hh rfl d_Ho_addLift_6 ?_
  refine g_iload_n C d_Ho_addLift_9 0 rfl ?_
  refine g_aload_n C d_Ho_addLift_10 2 rfl ?_
  refine g_aast C 3 hT3 rfl hg ha (by omega) d_Ho_addLift_11 ?_
  refine g_aload_n C d_Ho_addLift_12 1 rfl ?_
  refine g_dup C rfl d_Ho_addLift_13 ?_
  refine g_get C f_Ho_27 ((wd_up_n (ne_oa hh hg)).trans hh) rfl d_Ho_addLift_14 ?_
  refine g_iconst C d_Ho_addLift_17 ?_
  refine g_iadd C d_Ho_addLift_18 ?_
  refine g_put C p_Ho_27 ((wd_up_n (ne_oa hh hg)).trans hh) rfl rfl (Nat.le_of_ble_eq_true rfl) (fs' := [.ref pa, .ref la, .int (iI ((np : Int))), .int (iI (((nl : Int)) + 1))]) rfl d_Ho_addLift_19 ?_
  refine g_iload_n C d_Ho_addLift_22 0 rfl ?_
  exact g_iret C hr d_Ho_addLift_23 ⟨rfl, rfl⟩
set_option maxHeartbeats 4000000 in
set_option maxRecDepth 100000 in
theorem ct_Pt_addUse (l : Launch) (D : va_G) (tys : xK) (A : Nat → Prop) (M : Wm) (a : Nat) (n : Int) (pa : Nat) (t : Nat → Int) (d k : Int) (ht : okT t) (hd : 0 ≤ d ∧ d ≤ 100000) (hk : 1 ≤ k ∧ k ≤ 1000) (h : M a = some (oPt n pa t)) : mT l y_Pt_addUse b_Pt_addUse 3 none { frames := 0, cells := 0, slots := 0, locals := 0 } D tys A [.ref a, .int (iI d), .int (iI k)] M (qV D A (fun M' => ((t 8 = -1 ∧ t 3 ≤ t 6 + k) → M' = va_up M a (some (.inr (2, [.int (iI n), .ref pa, .int (iI (t 0)), .int (iI (t 1)), .int (iI (t 2)), .int (iI (t 3)), .int (iI (t 4)), .int (iI (t 5)), .int (iI (t 6 + k)), .int (iI d), .int (iI d)])))) ∧ (¬ (t 8 = -1 ∧ t 3 ≤ t 6 + k) → M' = va_up M a (some (.inr (2, [.int (iI n), .ref pa, .int (iI (t 0)), .int (iI (t 1)), .int (iI (t 2)), .int (iI (t 3)), .int (iI (t 4)), .int (iI (t 5)), .int (iI (t 6 + k)), .int (iI d), .int (iI (t 8))])))))) 0 0 := by
  refine met_of (own := R_Pt) (lv := [(0, .ref a), (1, .int (iI d)), (2, .int (iI k))]) rfl (by decide) (Nat.le_of_ble_eq_true rfl) rfl ?_
  intro p_ e_ s_ m_ bl_ me_ c_ C hr hin
  have ht2 := ht
  unfold okT at ht2
  refine g_aload_n C d_Pt_addUse_0 0 rfl ?_
  refine g_dup C rfl d_Pt_addUse_1 ?_
  refine g_get C f_Pt_15 h rfl d_Pt_addUse_2 ?_
  refine g_iload_n C d_Pt_addUse_5 2 rfl ?_
  refine g_iadd C d_Pt_addUse_6 ?_
  refine g_put C p_Pt_15 h rfl rfl (Nat.le_of_ble_eq_true rfl) (fs' := [.int (iI n), .ref pa, .int (iI (t 0)), .int (iI (t 1)), .int (iI (t 2)), .int (iI (t 3)), .int (iI (t 4)), .int (iI (t 5)), .int (iI ((t 6) + k)), .int (iI (t 7)), .int (iI (t 8))]) rfl d_Pt_addUse_7 ?_
  refine g_aload_n C d_Pt_addUse_10 0 rfl ?_
  refine g_iload_n C d_Pt_addUse_11 1 rfl ?_
  refine g_put C p_Pt_18 wd_up_s rfl rfl (Nat.le_of_ble_eq_true rfl) (fs' := [.int (iI n), .ref pa, .int (iI (t 0)), .int (iI (t 1)), .int (iI (t 2)), .int (iI (t 3)), .int (iI (t 4)), .int (iI (t 5)), .int (iI ((t 6) + k)), .int (iI d), .int (iI (t 8))]) rfl d_Pt_addUse_12 ?_
  refine g_world (bx_uu _ _ _ _) ?_
  refine g_aload_n C d_Pt_addUse_15 0 rfl ?_
  refine g_get C f_Pt_21 wd_up_s rfl d_Pt_addUse_16 ?_
  refine g_iconst C d_Pt_addUse_19 ?_
  refine g_icmp_ne C 39 d_Pt_addUse_20 rfl (by omega) (fun c1 => ?_) (fun c1 => ?_)
  · exact g_vret C hr d_Pt_addUse_39 ⟨fun _ => by first | rfl | omega, fun _ => by first | rfl | omega⟩
  · refine g_aload_n C d_Pt_addUse_23 0 rfl ?_
    refine g_get C f_Pt_15 wd_up_s rfl d_Pt_addUse_24 ?_
    refine g_aload_n C d_Pt_addUse_27 0 rfl ?_
    refine g_get C f_Pt_40 wd_up_s rfl d_Pt_addUse_28 ?_
    refine g_icmp_lt C 39 d_Pt_addUse_31 rfl (by omega) (fun c2 => ?_) (fun c2 => ?_)
    · exact g_vret C hr d_Pt_addUse_39 ⟨fun _ => by first | rfl | omega, fun _ => by first | rfl | omega⟩
    · refine g_aload_n C d_Pt_addUse_34 0 rfl ?_
      refine g_iload_n C d_Pt_addUse_35 1 rfl ?_
      refine g_put C p_Pt_21 wd_up_s rfl rfl (Nat.le_of_ble_eq_true rfl) (fs' := [.int (iI n), .ref pa, .int (iI (t 0)), .int (iI (t 1)), .int (iI (t 2)), .int (iI (t 3)), .int (iI (t 4)), .int (iI (t 5)), .int (iI ((t 6) + k)), .int (iI d), .int (iI d)]) rfl d_Pt_addUse_36 ?_
      refine g_world (bx_uu _ _ _ _) ?_
      exact g_vret C hr d_Pt_addUse_39 ⟨fun _ => by first | rfl | omega, fun _ => by first | rfl | omega⟩
set_option maxHeartbeats 4000000 in
set_option maxRecDepth 100000 in
theorem ct_Pt_renew (l : Launch) (D : va_G) (tys : xK) (A : Nat → Prop) (M : Wm) (a : Nat) (n : Int) (pa : Nat) (t : Nat → Int) (d : Int) (h : M a = some (oPt n pa t)) : mT l y_Pt_renew b_Pt_renew 2 none { frames := 0, cells := 0, slots := 0, locals := 0 } D tys A [.ref a, .int (iI d)] M (qV D A (fun M' => M' = va_up M a (some (.inr (2, [.int (iI n), .ref pa, .int (iI (t 0)), .int (iI (t 1)), .int (iI (t 2)), .int (iI (t 3)), .int (iI (t 4)), .int (iI d), .int (iI 0), .int (iI d), .int (iI ((-1)))]))))) 0 0 := by
  refine met_of (own := R_Pt) (lv := [(0, .ref a), (1, .int (iI d))]) rfl (by decide) (Nat.le_of_ble_eq_true rfl) rfl ?_
  intro p_ e_ s_ m_ bl_ me_ c_ C hr hin
  refine g_aload_n C d_Pt_renew_0 0 rfl ?_
  refine g_iload_n C d_Pt_renew_1 1 rfl ?_
  refine g_put C p_Pt_9 h rfl rfl (Nat.le_of_ble_eq_true rfl) (fs' := [.int (iI n), .ref pa, .int (iI (t 0)), .int (iI (t 1)), .int (iI (t 2)), .int (iI (t 3)), .int (iI (t 4)), .int (iI d), .int (iI (t 6)), .int (iI (t 7)), .int (iI (t 8))]) rfl d_Pt_renew_2 ?_
  refine g_aload_n C d_Pt_renew_5 0 rfl ?_
  refine g_iconst C d_Pt_renew_6 ?_
  refine g_put C p_Pt_15 wd_up_s rfl rfl (Nat.le_of_ble_eq_true rfl) (fs' := [.int (iI n), .ref pa, .int (iI (t 0)), .int (iI (t 1)), .int (iI (t 2)), .int (iI (t 3)), .int (iI (t 4)), .int (iI d), .int (iI 0), .int (iI (t 7)), .int (iI (t 8))]) rfl d_Pt_renew_7 ?_
  refine g_world (bx_uu _ _ _ _) ?_
  refine g_aload_n C d_Pt_renew_10 0 rfl ?_
  refine g_iload_n C d_Pt_renew_11 1 rfl ?_
  refine g_put C p_Pt_18 wd_up_s rfl rfl (Nat.le_of_ble_eq_true rfl) (fs' := [.int (iI n), .ref pa, .int (iI (t 0)), .int (iI (t 1)), .int (iI (t 2)), .int (iI (t 3)), .int (iI (t 4)), .int (iI d), .int (iI 0), .int (iI d), .int (iI (t 8))]) rfl d_Pt_renew_12 ?_
  refine g_world (bx_uu _ _ _ _) ?_
  refine g_aload_n C d_Pt_renew_15 0 rfl ?_
  refine g_iconst C d_Pt_renew_16 ?_
  refine g_put C p_Pt_21 wd_up_s rfl rfl (Nat.le_of_ble_eq_true rfl) (fs' := [.int (iI n), .ref pa, .int (iI (t 0)), .int (iI (t 1)), .int (iI (t 2)), .int (iI (t 3)), .int (iI (t 4)), .int (iI d), .int (iI 0), .int (iI d), .int (iI ((-1)))]) rfl d_Pt_renew_17 ?_
  refine g_world (bx_uu _ _ _ _) ?_
  exact g_vret C hr d_Pt_renew_20 rfl
set_option maxHeartbeats 4000000 in
set_option maxRecDepth 100000 in
theorem ct_To_end (l : Launch) (D : va_G) (tys : xK) (A : Nat → Prop) (M : Wm) (a oa : Nat) (go : Option Nat) (dy cn dn wk wo : Int) (h : M a = some (.inr (6, [.ref oa, va_rf go, .int (iI dy), .int (iI cn), .int (iI dn), .int (iI wk), .int (iI wo)]))) : mT l y_To_end b_To_end 1 none { frames := 0, cells := 0, slots := 0, locals := 0 } D tys A [.ref a] M (qV D A (fun M' => M' = va_up M a (some (.inr (6, [.ref oa, .null, .int (iI dy), .int (iI 0), .int (iI 0), .int (iI 0), .int (iI 0)]))))) 0 0 := by
  refine met_of (own := R_To) (lv := [(0, .ref a)]) rfl (by decide) (Nat.le_of_ble_eq_true rfl) rfl ?_
  intro p_ e_ s_ m_ bl_ me_ c_ C hr hin
  refine g_aload_n C d_To_end_0 0 rfl ?_
  refine g_null C d_To_end_1 ?_
  refine g_put C p_To_17 h rfl rfl (Nat.le_of_ble_eq_true rfl) (fs' := [.ref oa, .null, .int (iI dy), .int (iI cn), .int (iI dn), .int (iI wk), .int (iI wo)]) rfl d_To_end_2 ?_
  refine g_aload_n C d_To_end_5 0 rfl ?_
  refine g_iconst C d_To_end_6 ?_
  refine g_put C p_To_25 wd_up_s rfl rfl (Nat.le_of_ble_eq_true rfl) (fs' := [.ref oa, .null, .int (iI dy), .int (iI 0), .int (iI dn), .int (iI wk), .int (iI wo)]) rfl d_To_end_7 ?_
  refine g_world (bx_uu _ _ _ _) ?_
  refine g_aload_n C d_To_end_10 0 rfl ?_
  refine g_iconst C d_To_end_11 ?_
  refine g_put C p_To_28 wd_up_s rfl rfl (Nat.le_of_ble_eq_true rfl) (fs' := [.ref oa, .null, .int (iI dy), .int (iI 0), .int (iI 0), .int (iI wk), .int (iI wo)]) rfl d_To_end_12 ?_
  refine g_world (bx_uu _ _ _ _) ?_
  refine g_aload_n C d_To_end_15 0 rfl ?_
  refine g_iconst C d_To_end_16 ?_
  refine g_put C p_To_31 wd_up_s rfl rfl (Nat.le_of_ble_eq_true rfl) (fs' := [.ref oa, .null, .int (iI dy), .int (iI 0), .int (iI 0), .int (iI 0), .int (iI wo)]) rfl d_To_end_17 ?_
  refine g_world (bx_uu _ _ _ _) ?_
  refine g_aload_n C d_To_end_20 0 rfl ?_
  refine g_iconst C d_To_end_21 ?_
  refine g_put C p_To_34 wd_up_s rfl rfl (Nat.le_of_ble_eq_true rfl) (fs' := [.ref oa, .null, .int (iI dy), .int (iI 0), .int (iI 0), .int (iI 0), .int (iI 0)]) rfl d_To_end_22 ?_
  refine g_world (bx_uu _ _ _ _) ?_
  exact g_vret C hr d_To_end_25 rfl
set_option maxHeartbeats 4000000 in
set_option maxRecDepth 100000 in
theorem ct_To_begin (l : Launch) (D : va_G) (tys : xK) (A : Nat → Prop) (M : Wm) (a oa b : Nat) (go : Option Nat) (dy cn dn wk wo d : Int) (h : M a = some (.inr (6, [.ref oa, va_rf go, .int (iI dy), .int (iI cn), .int (iI dn), .int (iI wk), .int (iI wo)]))) : mT l y_To_begin b_To_begin 3 none { frames := 1, cells := 0, slots := 0, locals := 20 } D tys A [.ref a, .ref b, .int (iI d)] M (qV D A (fun M' => M' = va_up M a (some (.inr (6, [.ref oa, .ref b, .int (iI d), .int (iI 0), .int (iI 0), .int (iI 0), .int (iI 0)]))))) 0 0 := by
  refine met_of (own := R_To) (lv := [(0, .ref a), (1, .ref b), (2, .int (iI d))]) rfl (by decide) (Nat.le_of_ble_eq_true rfl) rfl ?_
  intro p_ e_ s_ m_ bl_ me_ c_ C hr hin
  refine g_aload_n C d_To_begin_0 0 rfl ?_
  refine g_callv C (run_V C [] k_To_37 (ct_To_end l D tys A M a oa go dy cn dn wk wo h) h ⟨rfl, rfl, Nat.le_of_ble_eq_true rfl, Nat.le_of_ble_eq_true rfl⟩ rfl rfl (Nat.le_of_ble_eq_true rfl) d_To_begin_1 ⟨Nat.le_of_ble_eq_true rfl, Nat.le_of_ble_eq_true rfl⟩) (fun M1 hM1 => ?_)
  subst hM1
  refine g_aload_n C d_To_begin_4 0 rfl ?_
  refine g_aload_n C d_To_begin_5 1 rfl ?_
  refine g_put C p_To_17 wd_up_s rfl rfl (Nat.le_of_ble_eq_true rfl) (fs' := [.ref oa, .ref b, .int (iI dy), .int (iI 0), .int (iI 0), .int (iI 0), .int (iI 0)]) rfl d_To_begin_6 ?_
  refine g_world (bx_uu _ _ _ _) ?_
  refine g_aload_n C d_To_begin_9 0 rfl ?_
  refine g_iload_n C d_To_begin_10 2 rfl ?_
  refine g_put C p_To_21 wd_up_s rfl rfl (Nat.le_of_ble_eq_true rfl) (fs' := [.ref oa, .ref b, .int (iI d), .int (iI 0), .int (iI 0), .int (iI 0), .int (iI 0)]) rfl d_To_begin_11 ?_
  refine g_world (bx_uu _ _ _ _) ?_
  exact g_vret C hr d_To_begin_14 rfl
set_option maxHeartbeats 4000000 in
set_option maxRecDepth 100000 in
theorem ct_Pn_clear (l : Launch) (D : va_G) (tys : xK) (A : Nat → Prop) (M : Wm) (a ca ga ra : Nat) (cn : Int) (h : M a = some (.inr (5, [.ref ca, .ref ga, .ref ra, .int (iI cn)]))) : mT l y_Pn_clear b_Pn_clear 1 none { frames := 0, cells := 0, slots := 0, locals := 0 } D tys A [.ref a] M (qV D A (fun M' => M' = va_up M a (some (.inr (5, [.ref ca, .ref ga, .ref ra, .int (iI 0)]))))) 0 0 := by
  refine met_of (own := R_Pn) (lv := [(0, .ref a)]) rfl (by decide) (Nat.le_of_ble_eq_true rfl) rfl ?_
  intro p_ e_ s_ m_ bl_ me_ c_ C hr hin
  refine g_aload_n C d_Pn_clear_0 0 rfl ?_
  refine g_iconst C d_Pn_clear_1 ?_
  refine g_put C p_Pn_24 h rfl rfl (Nat.le_of_ble_eq_true rfl) (fs' := [.ref ca, .ref ga, .ref ra, .int (iI 0)]) rfl d_Pn_clear_2 ?_
  exact g_vret C hr d_Pn_clear_5 rfl
set_option maxHeartbeats 4000000 in
set_option maxRecDepth 100000 in
theorem ct_Pn_isFull (l : Launch) (D : va_G) (tys : xK) (A : Nat → Prop) (M : Wm) (a ca ga ra : Nat) (cn : Int) (h0 : (-2147483648 ≤ cn ∧ cn < 2147483648)) (h : M a = some (.inr (5, [.ref ca, .ref ga, .ref ra, .int (iI cn)]))) : pT l y_Pn_isFull b_Pn_isFull 1 (some .boolean) { frames := 0, cells := 0, slots := 0, locals := 0 } D tys A [.ref a] M (qP (fun z => (z = 1 ∧ 7 ≤ cn) ∨ (z = 0 ∧ cn < 7))) := by
  refine met_of (own := R_Pn) (lv := [(0, .ref a)]) rfl (by decide) (Nat.le_of_ble_eq_true rfl) rfl ?_
  intro p_ e_ s_ m_ bl_ me_ c_ C hr hin
  refine g_aload_n C d_Pn_isFull_0 0 rfl ?_
  refine g_get C f_Pn_24 h rfl d_Pn_isFull_1 ?_
  refine g_bipush C d_Pn_isFull_4 (by decide) ?_
  refine g_icmp_lt C 13 d_Pn_isFull_6 rfl (by omega) (fun c1 => ?_) (fun c1 => ?_)
  · refine g_iconst C d_Pn_isFull_13 ?_
    exact g_zretP C hr (by omega) d_Pn_isFull_14 (by omega)
  · refine g_iconst C d_Pn_isFull_9 ?_
    refine g_goto C 14 d_Pn_isFull_10 rfl ?_
    exact g_zretP C hr (by omega) d_Pn_isFull_14 (by omega)
set_option maxHeartbeats 4000000 in
set_option maxRecDepth 100000 in
theorem ct_Pn_add (l : Launch) (D : va_G) (tys : xK) (A : Nat → Prop) (M : Wm) (hT : tyOK tys) (a ca ga ra b : Nat) (cn : Int) (g : Nat → Option Nat) (fs : List Value) (h0 : 0 ≤ cn ∧ cn < 7) (h : M a = some (.inr (5, [.ref ca, .ref ga, .ref ra, .int (iI cn)]))) (hg : M ca = some (.inl (tc tys 4, 7, .inr (.inr (.inr (.inr g)))))) (hb : M b = some (.inr (2, fs))) : mT l y_Pn_add b_Pn_add 2 none { frames := 0, cells := 0, slots := 0, locals := 0 } D tys A [.ref a, .ref b] M (qV D A (fun M' => M' = va_up (va_up M ca (some (.inl (tc tys 4, 7, .inr (.inr (.inr (.inr (va_up g cn.toNat (some b))))))))) a (some (.inr (5, [.ref ca, .ref ga, .ref ra, .int (iI (cn + 1))]))))) 0 0 := by
  refine met_of (own := R_Pn) (lv := [(0, .ref a), (1, .ref b)]) rfl (by decide) (Nat.le_of_ble_eq_true rfl) rfl ?_
  intro p_ e_ s_ m_ bl_ me_ c_ C hr hin
  obtain ⟨-, -, -, -, hT4, -⟩ := hT
  refine g_aload_n C d_Pn_add_0 0 rfl ?_
  refine g_get C f_Pn_13 h rfl d_Pn_add_1 ?_
  refine g_aload_n C d_Pn_add_4 0 rfl ?_
  refine g_get C f_Pn_24 h rfl d_Pn_add_5 ?_
  refine g_aload_n C d_Pn_add_8 1 rfl ?_
  refine g_aast C 4 hT4 rfl hg hb (by omega) d_Pn_add_9 ?_
  refine g_aload_n C d_Pn_add_10 0 rfl ?_
  refine g_dup C rfl d_Pn_add_11 ?_
  refine g_get C f_Pn_24 ((wd_up_n (ne_oa h hg)).trans h) rfl d_Pn_add_12 ?_
  refine g_iconst C d_Pn_add_15 ?_
  refine g_iadd C d_Pn_add_16 ?_
  refine g_put C p_Pn_24 ((wd_up_n (ne_oa h hg)).trans h) rfl rfl (Nat.le_of_ble_eq_true rfl) (fs' := [.ref ca, .ref ga, .ref ra, .int (iI (cn + 1))]) rfl d_Pn_add_17 ?_
  exact g_vret C hr d_Pn_add_20 rfl
set_option maxHeartbeats 4000000 in
set_option maxRecDepth 100000 in
theorem ct_Ct_isPart (l : Launch) (D : va_G) (tys : xK) (A : Nat → Prop) (M : Wm) (x ho ta rk ea sa pn to nt ns : Nat) (rt z0 : Int) (h0 : (-2147483648 ≤ z0 ∧ z0 < 2147483648)) (hn : nt ≤ 40) (hh : M x = some (.inr (7, [.int (iI rt), .ref ho, .ref ta, .ref rk, .ref ea, .ref sa, .ref pn, .ref to, .int (iI ((nt : Int))), .int (iI ((ns : Int)))]))) : pT l y_Ct_isPart b_Ct_isPart 2 (some .boolean) { frames := 1, cells := 0, slots := 0, locals := 22 } D tys A [.ref x, .int (iI z0)] M (qP (fun z => (z = 1 ∧ 0 ≤ z0 ∧ z0 < nt) ∨ (z = 0 ∧ ¬ (0 ≤ z0 ∧ z0 < nt)))) := by
  refine met_of (own := R_Ct) (lv := [(0, .ref x), (1, .int (iI z0))]) rfl (by decide) (Nat.le_of_ble_eq_true rfl) rfl ?_
  intro p_ e_ s_ m_ bl_ me_ c_ C hr hin
  refine g_iload_n C d_Ct_isPart_0 1 rfl ?_
  refine g_iconst C d_Ct_isPart_1 ?_
  refine g_aload_n C d_Ct_isPart_2 0 rfl ?_
  refine g_get C f_Ct_49 hh rfl d_Ct_isPart_3 ?_
  refine g_iconst C d_Ct_isPart_6 ?_
  refine g_isub C d_Ct_isPart_7 ?_
  refine g_calliP C (run_S C [.int (iI z0), .int (iI 0), .int (iI (((nt : Int)) - 1))] k_Ct_68 (ct_Ct_within l D tys A M z0 0 (((nt : Int)) - 1) (by omega)) ⟨rfl, rfl, Nat.le_of_ble_eq_true rfl, Nat.le_of_ble_eq_true rfl⟩ rfl rfl (Nat.le_of_ble_eq_true rfl) d_Ct_isPart_8 ⟨Nat.le_of_ble_eq_true rfl, Nat.le_of_ble_eq_true rfl⟩) (fun z1 hz1 => ?_)
  exact g_zretP C hr (by omega) d_Ct_isPart_11 (by omega)
