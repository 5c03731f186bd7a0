/-! THE TOUR UNDER WAY: written by program (wip/whole/gen/tour.py) -/
set_option maxHeartbeats 4000000 in
set_option maxRecDepth 100000 in
theorem ct_To_placeBefore (l : Launch) (D : va_G) (tys : xK) (A : Nat → Prop) (M : Wm) (hT : tyOK tys) (a oa ga : Nat) (dy : Int) (cn dn : Nat) (wk wo : Int) (so : Nat → Option Nat) (sq : Nat → Nat) (pp tt : Nat → Nat → Int) (ph : Nat → Int) (g : Nat) (hg : g ≤ cn) (hA : ToA tys M a oa ga dy cn dn wk wo so sq pp tt ph) : pT l y_To_placeBefore b_To_placeBefore 2 (some (.object "CareTours$Place")) { frames := 0, cells := 0, slots := 0, locals := 0 } D tys A [.ref a, .int (iI ((g : Int)))] M (qPR (fun z => M z = some (oPl (sBef sq pp ph g)))) := by
  refine met_of (own := R_To) (lv := [(0, .ref a), (1, .int (iI ((g : Int))))]) rfl (by decide) (Nat.le_of_ble_eq_true rfl) rfl ?_
  intro p_ e_ s_ m_ bl_ me_ c_ C hr hin
  have hA0 := hA
  obtain ⟨hto, hoa, ⟨hcn, hdn⟩, ⟨n0, u0, hph, hu0, ha0, hga, hha⟩, hel⟩ := hA
  obtain ⟨-, -, -, -, hT4, -⟩ := hT
  refine g_iload_n C d_To_placeBefore_0 1 rfl ?_
  refine g_if_le C 18 d_To_placeBefore_1 rfl (by omega) (fun c1 => ?_) (fun c1 => ?_)
  · refine g_aload_n C d_To_placeBefore_18 0 rfl ?_
    refine g_get C f_To_17 hto rfl d_To_placeBefore_19 ?_
    refine g_get C f_To_69 hga rfl d_To_placeBefore_22 ?_
    exact g_aretP C hr d_To_placeBefore_25 (by unfold sBef; rw [if_neg (by omega)]; exact hha)
  · obtain ⟨-, b1, hs1, hp1, ht1, pa1, hb1, hpa1⟩ := hel (g - 1) (by omega)
    refine g_aload_n C d_To_placeBefore_4 0 rfl ?_
    refine g_get C f_To_11 hto rfl d_To_placeBefore_5 ?_
    refine g_iload_n C d_To_placeBefore_8 1 rfl ?_
    refine g_iconst C d_To_placeBefore_9 ?_
    refine g_isub C d_To_placeBefore_10 ?_
    refine g_aald C 4 hT4 hoa (by omega) (by rw [show ((g : Int) - 1).toNat = g - 1 by omega]; exact hs1) d_To_placeBefore_11 ?_
    refine g_get C f_To_65 hb1 rfl d_To_placeBefore_12 ?_
    refine g_goto C 25 d_To_placeBefore_15 rfl ?_
    exact g_aretP C hr d_To_placeBefore_25 (by unfold sBef; rw [if_pos (by omega)]; exact hpa1)
set_option maxHeartbeats 4000000 in
set_option maxRecDepth 100000 in
theorem ct_To_placeBehind (l : Launch) (D : va_G) (tys : xK) (A : Nat → Prop) (M : Wm) (hT : tyOK tys) (a oa ga : Nat) (dy : Int) (cn dn : Nat) (wk wo : Int) (so : Nat → Option Nat) (sq : Nat → Nat) (pp tt : Nat → Nat → Int) (ph : Nat → Int) (g : Nat) (hg : g ≤ cn) (hA : ToA tys M a oa ga dy cn dn wk wo so sq pp tt ph) : pT l y_To_placeBehind b_To_placeBehind 2 (some (.object "CareTours$Place")) { frames := 0, cells := 0, slots := 0, locals := 0 } D tys A [.ref a, .int (iI ((g : Int)))] M (qPR (fun z => M z = some (oPl (sBeh sq pp ph cn g)))) := by
  refine met_of (own := R_To) (lv := [(0, .ref a), (1, .int (iI ((g : Int))))]) rfl (by decide) (Nat.le_of_ble_eq_true rfl) rfl ?_
  intro p_ e_ s_ m_ bl_ me_ c_ C hr hin
  have hA0 := hA
  obtain ⟨hto, hoa, ⟨hcn, hdn⟩, ⟨n0, u0, hph, hu0, ha0, hga, hha⟩, hel⟩ := hA
  obtain ⟨-, -, -, -, hT4, -⟩ := hT
  refine g_iload_n C d_To_placeBehind_0 1 rfl ?_
  refine g_aload_n C d_To_placeBehind_1 0 rfl ?_
  refine g_get C f_To_25 hto rfl d_To_placeBehind_2 ?_
  refine g_icmp_ge C 20 d_To_placeBehind_5 rfl (by omega) (fun c1 => ?_) (fun c1 => ?_)
  · refine g_aload_n C d_To_placeBehind_20 0 rfl ?_
    refine g_get C f_To_17 hto rfl d_To_placeBehind_21 ?_
    refine g_get C f_To_69 hga rfl d_To_placeBehind_24 ?_
    exact g_aretP C hr d_To_placeBehind_27 (by unfold sBeh; rw [if_neg (by omega)]; exact hha)
  · obtain ⟨-, b1, hs1, hp1, ht1, pa1, hb1, hpa1⟩ := hel g (by omega)
    refine g_aload_n C d_To_placeBehind_8 0 rfl ?_
    refine g_get C f_To_11 hto rfl d_To_placeBehind_9 ?_
    refine g_iload_n C d_To_placeBehind_12 1 rfl ?_
    refine g_aald C 4 hT4 hoa (by omega) (by rw [show (g : Int).toNat = g by omega]; exact hs1) d_To_placeBehind_13 ?_
    refine g_get C f_To_65 hb1 rfl d_To_placeBehind_14 ?_
    refine g_goto C 27 d_To_placeBehind_17 rfl ?_
    exact g_aretP C hr d_To_placeBehind_27 (by unfold sBeh; rw [if_pos (by omega)]; exact hpa1)
set_option maxHeartbeats 4000000 in
set_option maxRecDepth 100000 in
theorem ct_To_canReach (l : Launch) (D : va_G) (tys : xK) (A : Nat → Prop) (M : Wm) (hT : tyOK tys) (a oa ga : Nat) (dy : Int) (cn dn : Nat) (wk wo : Int) (so : Nat → Option Nat) (sq : Nat → Nat) (pp tt : Nat → Nat → Int) (ph : Nat → Int) (g : Nat) (hg : g ≤ cn) (hA : ToA tys M a oa ga dy cn dn wk wo so sq pp tt ph) (h nl : Nat) (lf : Nat → Nat → Int) (hH : HoA tys M h nl lf) (b0 : Nat) (p : Nat → Int) (hp : okP p) (hb0 : M b0 = some (oPl p)) : pT l y_To_canReach b_To_canReach 4 (some .boolean) { frames := 4, cells := 0, slots := 0, locals := 91 } D tys A [.ref a, .ref h, .ref b0, .int (iI ((g : Int)))] M (qP (fun z => (z = 1 ∧ ¬ sWay nl lf (sBef sq pp ph g) p = -1 ∧ ¬ sWay nl lf p (sBeh sq pp ph cn g) = -1) ∨ (z = 0 ∧ ¬ (¬ sWay nl lf (sBef sq pp ph g) p = -1 ∧ ¬ sWay nl lf p (sBeh sq pp ph cn g) = -1)))) := by
  refine met_of (own := R_To) (lv := [(0, .ref a), (1, .ref h), (2, .ref b0), (3, .int (iI ((g : Int))))]) rfl (by decide) (Nat.le_of_ble_eq_true rfl) rfl ?_
  intro p_ e_ s_ m_ bl_ me_ c_ C hr hin
  have hT0 := hT
  have hA0 := hA
  obtain ⟨hto, hoa, ⟨hcn, hdn⟩, ⟨n0, u0, hph, hu0, ha0, hga, hha⟩, hel⟩ := hA
  obtain ⟨-, -, -, -, hT4, -⟩ := hT
  have hlok := hH.2.1
  obtain ⟨-, -, pa9, la9, np9, gl9, hh9, -⟩ := id hH
  refine g_aload_n C d_To_canReach_0 1 rfl ?_
  refine g_aload_n C d_To_canReach_1 0 rfl ?_
  refine g_iload_n C d_To_canReach_2 3 rfl ?_
  refine g_callrP C (run_V C [.int (iI ((g : Int)))] k_To_52 (ct_To_placeBefore l D tys A M hT0 a oa ga dy cn dn wk wo so sq pp tt ph g hg hA0) hto ⟨rfl, rfl, Nat.le_of_ble_eq_true rfl, Nat.le_of_ble_eq_true rfl⟩ rfl rfl (Nat.le_of_ble_eq_true rfl) d_To_canReach_3 ⟨Nat.le_of_ble_eq_true rfl, Nat.le_of_ble_eq_true rfl⟩) (fun b1 hb1 => ?_)
  refine g_aload_n C d_To_canReach_6 2 rfl ?_
  refine g_calliP C (run_V C [.ref b1, .ref b0] k_To_56 (ct_Ho_secondsBetween l D tys A M hT0 h b1 b0 nl lf (sBef sq pp ph g) p (hA0.bef hg) hp hH hb1 hb0) hh9 ⟨rfl, rfl, Nat.le_of_ble_eq_true rfl, Nat.le_of_ble_eq_true rfl⟩ rfl rfl (Nat.le_of_ble_eq_true rfl) d_To_canReach_7 ⟨Nat.le_of_ble_eq_true rfl, Nat.le_of_ble_eq_true rfl⟩) (fun z2 hz2 => ?_)
  have hbz2 := sWay_b (nl := nl) hlok (hA0.bef hg) hp
  refine g_iconst C d_To_canReach_10 ?_
  refine g_icmp_eq C 32 d_To_canReach_11 rfl (by omega) (fun c3 => ?_) (fun c3 => ?_)
  · refine g_iconst C d_To_canReach_32 ?_
    exact g_zretP C hr (by omega) d_To_canReach_33 (by omega)
  · refine g_aload_n C d_To_canReach_14 1 rfl ?_
    refine g_aload_n C d_To_canReach_15 2 rfl ?_
    refine g_aload_n C d_To_canReach_16 0 rfl ?_
    refine g_iload_n C d_To_canReach_17 3 rfl ?_
    refine g_callrP C (run_V C [.int (iI ((g : Int)))] k_To_62 (ct_To_placeBehind l D tys A M hT0 a oa ga dy cn dn wk wo so sq pp tt ph g hg hA0) hto ⟨rfl, rfl, Nat.le_of_ble_eq_true rfl, Nat.le_of_ble_eq_true rfl⟩ rfl rfl (Nat.le_of_ble_eq_true rfl) d_To_canReach_18 ⟨Nat.le_of_ble_eq_true rfl, Nat.le_of_ble_eq_true rfl⟩) (fun b4 hb4 => ?_)
    refine g_calliP C (run_V C [.ref b0, .ref b4] k_To_56 (ct_Ho_secondsBetween l D tys A M hT0 h b0 b4 nl lf p (sBeh sq pp ph cn g) hp (hA0.beh (g := g)) hH hb0 hb4) hh9 ⟨rfl, rfl, Nat.le_of_ble_eq_true rfl, Nat.le_of_ble_eq_true rfl⟩ rfl rfl (Nat.le_of_ble_eq_true rfl) d_To_canReach_21 ⟨Nat.le_of_ble_eq_true rfl, Nat.le_of_ble_eq_true rfl⟩) (fun z5 hz5 => ?_)
    have hbz5 := sWay_b (nl := nl) hlok hp (hA0.beh (g := g))
    refine g_iconst C d_To_canReach_24 ?_
    refine g_icmp_eq C 32 d_To_canReach_25 rfl (by omega) (fun c6 => ?_) (fun c6 => ?_)
    · refine g_iconst C d_To_canReach_32 ?_
      exact g_zretP C hr (by omega) d_To_canReach_33 (by omega)
    · refine g_iconst C d_To_canReach_28 ?_
      refine g_goto C 33 d_To_canReach_29 rfl ?_
      exact g_zretP C hr (by omega) d_To_canReach_33 (by omega)
set_option maxHeartbeats 4000000 in
set_option maxRecDepth 100000 in
theorem ct_To_detour (l : Launch) (D : va_G) (tys : xK) (A : Nat → Prop) (M : Wm) (hT : tyOK tys) (a oa ga : Nat) (dy : Int) (cn dn : Nat) (wk wo : Int) (so : Nat → Option Nat) (sq : Nat → Nat) (pp tt : Nat → Nat → Int) (ph : Nat → Int) (g : Nat) (hg : g ≤ cn) (hA : ToA tys M a oa ga dy cn dn wk wo so sq pp tt ph) (h nl : Nat) (lf : Nat → Nat → Int) (hH : HoA tys M h nl lf) (b0 : Nat) (p : Nat → Int) (hp : okP p) (hb0 : M b0 = some (oPl p)) : pT l y_To_detour b_To_detour 6 (some .int) { frames := 4, cells := 0, slots := 0, locals := 91 } D tys A [.ref a, .ref h, .ref b0, .int (iI ((g : Int)))] M (qP (fun z => z = sDet nl lf sq pp ph cn p g)) := by
  refine met_of (own := R_To) (lv := [(0, .ref a), (1, .ref h), (2, .ref b0), (3, .int (iI ((g : Int))))]) rfl (by decide) (Nat.le_of_ble_eq_true rfl) rfl ?_
  intro p_ e_ s_ m_ bl_ me_ c_ C hr hin
  have hT0 := hT
  have hA0 := hA
  obtain ⟨hto, hoa, ⟨hcn, hdn⟩, ⟨n0, u0, hph, hu0, ha0, hga, hha⟩, hel⟩ := hA
  obtain ⟨-, -, -, -, hT4, -⟩ := hT
  have hlok := hH.2.1
  obtain ⟨-, -, pa9, la9, np9, gl9, hh9, -⟩ := id hH
  refine g_aload_n C d_To_detour_0 0 rfl ?_
  refine g_iload_n C d_To_detour_1 3 rfl ?_
  refine g_callrP C (run_V C [.int (iI ((g : Int)))] k_To_52 (ct_To_placeBefore l D tys A M hT0 a oa ga dy cn dn wk wo so sq pp tt ph g hg hA0) hto ⟨rfl, rfl, Nat.le_of_ble_eq_true rfl, Nat.le_of_ble_eq_true rfl⟩ rfl rfl (Nat.le_of_ble_eq_true rfl) d_To_detour_2 ⟨Nat.le_of_ble_eq_true rfl, Nat.le_of_ble_eq_true rfl⟩) (fun b1 hb1 => ?_)
  refine g_astore (lv' := [(4, .ref b1), (0, .ref a), (1, .ref h), (2, .ref b0), (3, .int (iI ((g : Int))))]) C d_To_detour_5 (by decide) rfl ?_
  refine g_aload_n C d_To_detour_7 1 rfl ?_
  refine g_iload_n C d_To_detour_8 4 rfl ?_
  refine g_callrP C (run_V C [.int (iI ((g : Int)))] k_To_62 (ct_To_placeBehind l D tys A M hT0 a oa ga dy cn dn wk wo so sq pp tt ph g hg hA0) hto ⟨rfl, rfl, Nat.le_of_ble_eq_true rfl, Nat.le_of_ble_eq_true rfl⟩ rfl rfl (Nat.le_of_ble_eq_true rfl) d_To_detour_9 ⟨Nat.le_of_ble_eq_true rfl, Nat.le_of_ble_eq_true rfl⟩) (fun b2 hb2 => ?_)
  refine g_astore (lv' := [(5, .ref b2), (4, .ref b1), (0, .ref a), (1, .ref h), (2, .ref b0), (3, .int (iI ((g : Int))))]) C d_To_detour_12 (by decide) rfl ?_
  refine g_aload_n C d_To_detour_14 3 rfl ?_
  refine g_aload C d_To_detour_15 1 rfl ?_
  refine g_aload_n C d_To_detour_17 4 rfl ?_
  refine g_calliP C (run_V C [.ref b1, .ref b0] k_To_56 (ct_Ho_secondsBetween l D tys A M hT0 h b1 b0 nl lf (sBef sq pp ph g) p (hA0.bef hg) hp hH hb1 hb0) hh9 ⟨rfl, rfl, Nat.le_of_ble_eq_true rfl, Nat.le_of_ble_eq_true rfl⟩ rfl rfl (Nat.le_of_ble_eq_true rfl) d_To_detour_18 ⟨Nat.le_of_ble_eq_true rfl, Nat.le_of_ble_eq_true rfl⟩) (fun z3 hz3 => ?_)
  have hbz3 := sWay_b (nl := nl) hlok (hA0.bef hg) hp
  refine g_aload_n C d_To_detour_21 3 rfl ?_
  refine g_aload_n C d_To_detour_22 4 rfl ?_
  refine g_aload C d_To_detour_23 0 rfl ?_
  refine g_calliP C (run_V C [.ref b0, .ref b2] k_To_56 (ct_Ho_secondsBetween l D tys A M hT0 h b0 b2 nl lf p (sBeh sq pp ph cn g) hp (hA0.beh (g := g)) hH hb0 hb2) hh9 ⟨rfl, rfl, Nat.le_of_ble_eq_true rfl, Nat.le_of_ble_eq_true rfl⟩ rfl rfl (Nat.le_of_ble_eq_true rfl) d_To_detour_25 ⟨Nat.le_of_ble_eq_true rfl, Nat.le_of_ble_eq_true rfl⟩) (fun z4 hz4 => ?_)
  have hbz4 := sWay_b (nl := nl) hlok hp (hA0.beh (g := g))
  refine g_iadd C d_To_detour_28 ?_
  refine g_aload_n C d_To_detour_29 3 rfl ?_
  refine g_aload C d_To_detour_30 1 rfl ?_
  refine g_aload C d_To_detour_32 0 rfl ?_
  refine g_calliP C (run_V C [.ref b1, .ref b2] k_To_56 (ct_Ho_secondsBetween l D tys A M hT0 h b1 b2 nl lf (sBef sq pp ph g) (sBeh sq pp ph cn g) (hA0.bef hg) (hA0.beh (g := g)) hH hb1 hb2) hh9 ⟨rfl, rfl, Nat.le_of_ble_eq_true rfl, Nat.le_of_ble_eq_true rfl⟩ rfl rfl (Nat.le_of_ble_eq_true rfl) d_To_detour_34 ⟨Nat.le_of_ble_eq_true rfl, Nat.le_of_ble_eq_true rfl⟩) (fun z5 hz5 => ?_)
  have hbz5 := sWay_b (nl := nl) hlok (hA0.bef hg) (hA0.beh (g := g))
  refine g_isub C d_To_detour_37 ?_
  exact g_iretP C hr d_To_detour_38 (by unfold sDet; omega)
set_option maxHeartbeats 4000000 in
set_option maxRecDepth 100000 in
theorem ct_To_shortestGap (l : Launch) (D : va_G) (tys : xK) (A : Nat → Prop) (M : Wm) (hT : tyOK tys) (a oa ga : Nat) (dy : Int) (cn dn : Nat) (wk wo : Int) (so : Nat → Option Nat) (sq : Nat → Nat) (pp tt : Nat → Nat → Int) (ph : Nat → Int) (hA : ToA tys M a oa ga dy cn dn wk wo so sq pp tt ph) (h nl : Nat) (lf : Nat → Nat → Int) (hH : HoA tys M h nl lf) (b0 : Nat) (p : Nat → Int) (hp : okP p) (hb0 : M b0 = some (oPl p)) (hdb0 : ∀ q, -10000 ≤ sDet nl lf sq pp ph cn p q ∧ sDet nl lf sq pp ph cn p q ≤ 10000) : pT l y_To_shortestGap b_To_shortestGap 7 (some .int) { frames := 5, cells := 0, slots := 0, locals := 116 } D tys A [.ref a, .ref h, .ref b0] M (qP (fun z => z = (sGap (fun g => sWay nl lf (sBef sq pp ph g) p) (fun g => sWay nl lf p (sBeh sq pp ph cn g)) (sDet nl lf sq pp ph cn p) dn (cn + 1 - dn)).1)) := by
  refine met_of (own := R_To) (lv := [(0, .ref a), (1, .ref h), (2, .ref b0)]) rfl (by decide) (Nat.le_of_ble_eq_true rfl) rfl ?_
  intro p_ e_ s_ m_ bl_ me_ c_ C hr hin
  have hT0 := hT
  have hA0 := hA
  obtain ⟨hto, hoa, ⟨hcn, hdn⟩, ⟨n0, u0, hph, hu0, ha0, hga, hha⟩, hel⟩ := hA
  obtain ⟨-, -, -, -, hT4, -⟩ := hT
  have hlok := hH.2.1
  obtain ⟨-, -, pa9, la9, np9, gl9, hh9, -⟩ := id hH
  refine g_iconst C d_To_shortestGap_0 ?_
  refine g_istore_n (lv' := [(3, .int (iI ((-1)))), (0, .ref a), (1, .ref h), (2, .ref b0)]) C d_To_shortestGap_1 (by decide) rfl ?_
  refine g_iconst C d_To_shortestGap_2 ?_
  refine g_istore (lv' := [(4, .int (iI 0)), (3, .int (iI ((-1)))), (0, .ref a), (1, .ref h), (2, .ref b0)]) C d_To_shortestGap_3 (by decide) rfl ?_
  refine g_aload_n C d_To_shortestGap_5 2 rfl ?_
  refine g_get C f_To_28 hto rfl d_To_shortestGap_6 ?_
  refine g_istore (lv' := [(5, .int (iI ((dn : Int)))), (4, .int (iI 0)), (3, .int (iI ((-1)))), (0, .ref a), (1, .ref h), (2, .ref b0)]) C d_To_shortestGap_9 (by decide) rfl ?_
  have hG0 : sGap (fun g => sWay nl lf (sBef sq pp ph g) p) (fun g => sWay nl lf p (sBeh sq pp ph cn g)) (sDet nl lf sq pp ph cn p) dn (dn - dn) = (-1, 0) := by rw [Nat.sub_self, sGap.eq_1]
  refine g_eq (lv' := [(5, .int (iI (dn : Int))), (4, .int (iI (sGap (fun g => sWay nl lf (sBef sq pp ph g) p) (fun g => sWay nl lf p (sBeh sq pp ph cn g)) (sDet nl lf sq pp ph cn p) dn (dn - dn)).2)), (3, .int (iI (sGap (fun g => sWay nl lf (sBef sq pp ph g) p) (fun g => sWay nl lf p (sBeh sq pp ph cn g)) (sDet nl lf sq pp ph cn p) dn (dn - dn)).1)), (0, .ref a), (1, .ref h), (2, .ref b0)]) (by rw [hG0]) rfl ?_
  refine g_sub [3, 4, 5, 2, 1, 0] rfl (g_loop (σ := Nat) (fun x => cn + 1 - x) (fun x => (dn ≤ x ∧ x ≤ cn + 1)) (fun x => [(0, .ref a), (1, .ref h), (2, .ref b0), (3, .int (iI ((sGap (fun x => sWay nl lf (sBef sq pp ph x) p) (fun x => sWay nl lf p (sBeh sq pp ph cn x)) (sDet nl lf sq pp ph cn p) dn (x - dn)).1))), (4, .int (iI ((sGap (fun x => sWay nl lf (sBef sq pp ph x) p) (fun x => sWay nl lf p (sBeh sq pp ph cn x)) (sDet nl lf sq pp ph cn p) dn (x - dn)).2))), (5, .int (iI ((x : Int))))]) (fun x => M) ?_ (dn) ((by omega)))
  intro x_ hI ih11
  obtain ⟨g, rfl⟩ : ∃ z, z = x_ := ⟨_, rfl⟩
  try dsimp only at hI ih11 ⊢
  obtain hg0 := hI
  have hdb : ∀ q, -10000 ≤ sDet nl lf sq pp ph cn p q ∧ sDet nl lf sq pp ph cn p q ≤ 10000 := hdb0
  have hgb := sGap_b (w1 := (fun g => sWay nl lf (sBef sq pp ph g) p)) (w2 := (fun g => sWay nl lf p (sBeh sq pp ph cn g))) (lo := dn) (n := g - dn) hdb
  refine g_iload C d_To_shortestGap_11 5 rfl ?_
  refine g_aload_n C d_To_shortestGap_13 0 rfl ?_
  refine g_get C f_To_25 hto rfl d_To_shortestGap_14 ?_
  refine g_icmp_gt C 66 d_To_shortestGap_17 rfl (by omega) (fun c1 => ?_) (fun c1 => ?_)
  · refine g_iload_n C d_To_shortestGap_66 3 rfl ?_
    exact g_iretP C hr d_To_shortestGap_67 (by rw [show cn + 1 - dn = g - dn by omega])
  · have hg : g ≤ cn := by omega
    refine g_aload_n C d_To_shortestGap_20 0 rfl ?_
    refine g_aload_n C d_To_shortestGap_21 1 rfl ?_
    refine g_aload_n C d_To_shortestGap_22 2 rfl ?_
    refine g_iload C d_To_shortestGap_23 5 rfl ?_
    refine g_calliP C (run_V C [.ref h, .ref b0, .int (iI ((g : Int)))] k_To_44 (ct_To_canReach l D tys A M hT0 a oa ga dy cn dn wk wo so sq pp tt ph g (by omega) hA0 h nl lf hH b0 p hp hb0) hto ⟨rfl, rfl, Nat.le_of_ble_eq_true rfl, Nat.le_of_ble_eq_true rfl⟩ rfl rfl (Nat.le_of_ble_eq_true rfl) d_To_shortestGap_25 ⟨Nat.le_of_ble_eq_true rfl, Nat.le_of_ble_eq_true rfl⟩) (fun z2 hz2 => ?_)
    refine g_if_eq C 60 d_To_shortestGap_28 rfl (by omega) (fun c3 => ?_) (fun c3 => ?_)
    · refine g_iinc (lv' := [(5, .int (iI (((g : Int)) + 1))), (0, .ref a), (1, .ref h), (2, .ref b0), (3, .int (iI ((sGap (fun g => sWay nl lf (sBef sq pp ph g) p) (fun g => sWay nl lf p (sBeh sq pp ph cn g)) (sDet nl lf sq pp ph cn p) dn (g - dn)).1))), (4, .int (iI ((sGap (fun g => sWay nl lf (sBef sq pp ph g) p) (fun g => sWay nl lf p (sBeh sq pp ph cn g)) (sDet nl lf sq pp ph cn p) dn (g - dn)).2)))]) C d_To_shortestGap_60 5 rfl (by decide) rfl ?_
      refine g_goto C 11 d_To_shortestGap_63 rfl ?_
      have hE : sGap (fun g => sWay nl lf (sBef sq pp ph g) p) (fun g => sWay nl lf p (sBeh sq pp ph cn g)) (sDet nl lf sq pp ph cn p) dn (g + 1 - dn) = sGap (fun g => sWay nl lf (sBef sq pp ph g) p) (fun g => sWay nl lf p (sBeh sq pp ph cn g)) (sDet nl lf sq pp ph cn p) dn (g - dn) := by
        rw [show g + 1 - dn = (g - dn) + 1 by omega, sGap.eq_2, show dn + (g - dn) = g by omega, if_neg (by omega)]
      rw [← hE]
      exact g_sub [1, 2, 3, 4, 5, 0] rfl (ih11 (g + 1) (by omega) (by first | omega | (dsimp only; omega)))
    · refine g_aload_n C d_To_shortestGap_31 0 rfl ?_
      refine g_aload_n C d_To_shortestGap_32 1 rfl ?_
      refine g_aload_n C d_To_shortestGap_33 2 rfl ?_
      refine g_iload C d_To_shortestGap_34 5 rfl ?_
      refine g_calliP C (run_V C [.ref h, .ref b0, .int (iI ((g : Int)))] k_To_48 (ct_To_detour l D tys A M hT0 a oa ga dy cn dn wk wo so sq pp tt ph g (by omega) hA0 h nl lf hH b0 p hp hb0) hto ⟨rfl, rfl, Nat.le_of_ble_eq_true rfl, Nat.le_of_ble_eq_true rfl⟩ rfl rfl (Nat.le_of_ble_eq_true rfl) d_To_shortestGap_36 ⟨Nat.le_of_ble_eq_true rfl, Nat.le_of_ble_eq_true rfl⟩) (fun z4 hz4 => ?_)
      refine g_istore (lv' := [(6, .int (iI z4)), (0, .ref a), (1, .ref h), (2, .ref b0), (3, .int (iI ((sGap (fun g => sWay nl lf (sBef sq pp ph g) p) (fun g => sWay nl lf p (sBeh sq pp ph cn g)) (sDet nl lf sq pp ph cn p) dn (g - dn)).1))), (4, .int (iI ((sGap (fun g => sWay nl lf (sBef sq pp ph g) p) (fun g => sWay nl lf p (sBeh sq pp ph cn g)) (sDet nl lf sq pp ph cn p) dn (g - dn)).2))), (5, .int (iI ((g : Int))))]) C d_To_shortestGap_39 (by decide) rfl ?_
      have hdg := hdb g
      refine g_iload_n C d_To_shortestGap_41 4 rfl ?_
      refine g_iconst C d_To_shortestGap_42 ?_
      refine g_icmp_eq C 53 d_To_shortestGap_43 rfl (by omega) (fun c5 => ?_) (fun c5 => ?_)
      · refine g_iload C d_To_shortestGap_53 6 rfl ?_
        refine g_istore_n (lv' := [(3, .int (iI ((g : Int)))), (6, .int (iI z4)), (0, .ref a), (1, .ref h), (2, .ref b0), (4, .int (iI ((sGap (fun g => sWay nl lf (sBef sq pp ph g) p) (fun g => sWay nl lf p (sBeh sq pp ph cn g)) (sDet nl lf sq pp ph cn p) dn (g - dn)).2))), (5, .int (iI ((g : Int))))]) C d_To_shortestGap_55 (by decide) rfl ?_
        refine g_iload C d_To_shortestGap_56 1 rfl ?_
        refine g_istore (lv' := [(4, .int (iI z4)), (3, .int (iI ((g : Int)))), (6, .int (iI z4)), (0, .ref a), (1, .ref h), (2, .ref b0), (5, .int (iI ((g : Int))))]) C d_To_shortestGap_58 (by decide) rfl ?_
        refine g_iinc (lv' := [(5, .int (iI (((g : Int)) + 1))), (4, .int (iI z4)), (3, .int (iI ((g : Int)))), (6, .int (iI z4)), (0, .ref a), (1, .ref h), (2, .ref b0)]) C d_To_shortestGap_60 6 rfl (by decide) rfl ?_
        refine g_goto C 11 d_To_shortestGap_63 rfl ?_
        have hE : sGap (fun g => sWay nl lf (sBef sq pp ph g) p) (fun g => sWay nl lf p (sBeh sq pp ph cn g)) (sDet nl lf sq pp ph cn p) dn (g + 1 - dn) = ((g : Int), sDet nl lf sq pp ph cn p g) := by
          rw [show g + 1 - dn = (g - dn) + 1 by omega, sGap.eq_2, show dn + (g - dn) = g by omega, if_pos (by omega)]
        have hE1 : (g : Int) = (sGap (fun g => sWay nl lf (sBef sq pp ph g) p) (fun g => sWay nl lf p (sBeh sq pp ph cn g)) (sDet nl lf sq pp ph cn p) dn (g + 1 - dn)).1 := by rw [hE]
        have hE2 : z4 = (sGap (fun g => sWay nl lf (sBef sq pp ph g) p) (fun g => sWay nl lf p (sBeh sq pp ph cn g)) (sDet nl lf sq pp ph cn p) dn (g + 1 - dn)).2 := by rw [hE]; assumption
        refine g_eq (lv' := [(5, .int (iI ((g : Int) + 1))), (4, .int (iI (sGap (fun g => sWay nl lf (sBef sq pp ph g) p) (fun g => sWay nl lf p (sBeh sq pp ph cn g)) (sDet nl lf sq pp ph cn p) dn (g + 1 - dn)).2)), (3, .int (iI (sGap (fun g => sWay nl lf (sBef sq pp ph g) p) (fun g => sWay nl lf p (sBeh sq pp ph cn g)) (sDet nl lf sq pp ph cn p) dn (g + 1 - dn)).1)), (6, .int (iI z4)), (0, .ref a), (1, .ref h), (2, .ref b0)]) (by rw [← hE1, ← hE2]) rfl ?_
        exact g_sub [4, 5, 6, 2, 1, 0] rfl (ih11 (g + 1) (by omega) (by first | omega | (dsimp only; omega)))
      · refine g_iload C d_To_shortestGap_46 0 rfl ?_
        refine g_iload C d_To_shortestGap_48 5 rfl ?_
        refine g_icmp_ge C 60 d_To_shortestGap_50 rfl (by omega) (fun c6 => ?_) (fun c6 => ?_)
        · refine g_iinc (lv' := [(5, .int (iI (((g : Int)) + 1))), (6, .int (iI z4)), (0, .ref a), (1, .ref h), (2, .ref b0), (3, .int (iI ((sGap (fun g => sWay nl lf (sBef sq pp ph g) p) (fun g => sWay nl lf p (sBeh sq pp ph cn g)) (sDet nl lf sq pp ph cn p) dn (g - dn)).1))), (4, .int (iI ((sGap (fun g => sWay nl lf (sBef sq pp ph g) p) (fun g => sWay nl lf p (sBeh sq pp ph cn g)) (sDet nl lf sq pp ph cn p) dn (g - dn)).2)))]) C d_To_shortestGap_60 6 rfl (by decide) rfl ?_
          refine g_goto C 11 d_To_shortestGap_63 rfl ?_
          have hE : sGap (fun g => sWay nl lf (sBef sq pp ph g) p) (fun g => sWay nl lf p (sBeh sq pp ph cn g)) (sDet nl lf sq pp ph cn p) dn (g + 1 - dn) = sGap (fun g => sWay nl lf (sBef sq pp ph g) p) (fun g => sWay nl lf p (sBeh sq pp ph cn g)) (sDet nl lf sq pp ph cn p) dn (g - dn) := by
            rw [show g + 1 - dn = (g - dn) + 1 by omega, sGap.eq_2, show dn + (g - dn) = g by omega, if_neg (by omega)]
          rw [← hE]
          exact g_sub [2, 3, 4, 5, 6, 0] rfl (ih11 (g + 1) (by omega) (by first | omega | (dsimp only; omega)))
        · refine g_iload C d_To_shortestGap_53 6 rfl ?_
          refine g_istore_n (lv' := [(3, .int (iI ((g : Int)))), (6, .int (iI z4)), (0, .ref a), (1, .ref h), (2, .ref b0), (4, .int (iI ((sGap (fun g => sWay nl lf (sBef sq pp ph g) p) (fun g => sWay nl lf p (sBeh sq pp ph cn g)) (sDet nl lf sq pp ph cn p) dn (g - dn)).2))), (5, .int (iI ((g : Int))))]) C d_To_shortestGap_55 (by decide) rfl ?_
          refine g_iload C d_To_shortestGap_56 1 rfl ?_
          refine g_istore (lv' := [(4, .int (iI z4)), (3, .int (iI ((g : Int)))), (6, .int (iI z4)), (0, .ref a), (1, .ref h), (2, .ref b0), (5, .int (iI ((g : Int))))]) C d_To_shortestGap_58 (by decide) rfl ?_
          refine g_iinc (lv' := [(5, .int (iI (((g : Int)) + 1))), (4, .int (iI z4)), (3, .int (iI ((g : Int)))), (6, .int (iI z4)), (0, .ref a), (1, .ref h), (2, .ref b0)]) C d_To_shortestGap_60 6 rfl (by decide) rfl ?_
          refine g_goto C 11 d_To_shortestGap_63 rfl ?_
          have hE : sGap (fun g => sWay nl lf (sBef sq pp ph g) p) (fun g => sWay nl lf p (sBeh sq pp ph cn g)) (sDet nl lf sq pp ph cn p) dn (g + 1 - dn) = ((g : Int), sDet nl lf sq pp ph cn p g) := by
            rw [show g + 1 - dn = (g - dn) + 1 by omega, sGap.eq_2, show dn + (g - dn) = g by omega, if_pos (by omega)]
          have hE1 : (g : Int) = (sGap (fun g => sWay nl lf (sBef sq pp ph g) p) (fun g => sWay nl lf p (sBeh sq pp ph cn g)) (sDet nl lf sq pp ph cn p) dn (g + 1 - dn)).1 := by rw [hE]
          have hE2 : z4 = (sGap (fun g => sWay nl lf (sBef sq pp ph g) p) (fun g => sWay nl lf p (sBeh sq pp ph cn g)) (sDet nl lf sq pp ph cn p) dn (g + 1 - dn)).2 := by rw [hE]; assumption
          refine g_eq (lv' := [(5, .int (iI ((g : Int) + 1))), (4, .int (iI (sGap (fun g => sWay nl lf (sBef sq pp ph g) p) (fun g => sWay nl lf p (sBeh sq pp ph cn g)) (sDet nl lf sq pp ph cn p) dn (g + 1 - dn)).2)), (3, .int (iI (sGap (fun g => sWay nl lf (sBef sq pp ph g) p) (fun g => sWay nl lf p (sBeh sq pp ph cn g)) (sDet nl lf sq pp ph cn p) dn (g + 1 - dn)).1)), (6, .int (iI z4)), (0, .ref a), (1, .ref h), (2, .ref b0)]) (by rw [← hE1, ← hE2]) rfl ?_
          exact g_sub [4, 5, 6, 2, 1, 0] rfl (ih11 (g + 1) (by omega) (by first | omega | (dsimp only; omega)))
