/-! LEAVES of the class: written by program (wip/whole/gen/leaf.py) -/
set_option maxHeartbeats 4000000 in
set_option maxRecDepth 100000 in
theorem ct_Ct_within (l : Launch) (D : va_G) (tys : xK) (A : Nat → Prop) (M : Wm) (n lo hi : Int) (h0 : (-2147483648 ≤ n ∧ n < 2147483648) ∧ (-2147483648 ≤ lo ∧ lo < 2147483648) ∧ (-2147483648 ≤ hi ∧ hi < 2147483648)) : pT l y_Ct_within b_Ct_within 3 (some .boolean) { frames := 0, cells := 0, slots := 0, locals := 0 } D tys A [.int (iI n), .int (iI lo), .int (iI hi)] M (qP (fun z => (z = 1 ∧ lo ≤ n ∧ n ≤ hi) ∨ (z = 0 ∧ ¬ (lo ≤ n ∧ n ≤ hi)))) := by
  refine met_of (own := R_Ct) (lv := [(0, .int (iI n)), (1, .int (iI lo)), (2, .int (iI hi))]) rfl (by decide) (Nat.le_of_ble_eq_true rfl) rfl ?_
  intro p_ e_ s_ m_ bl_ me_ c_ C hr hin
  refine g_iload_n C d_Ct_within_0 0 rfl ?_
  refine g_iload_n C d_Ct_within_1 1 rfl ?_
  refine g_icmp_lt C 14 d_Ct_within_2 rfl (by omega) (fun c1 => ?_) (fun c1 => ?_)
  · refine g_iconst C d_Ct_within_14 ?_
    exact g_zretP C hr (by omega) d_Ct_within_15 (by omega)
  · refine g_iload_n C d_Ct_within_5 0 rfl ?_
    refine g_iload_n C d_Ct_within_6 2 rfl ?_
    refine g_icmp_gt C 14 d_Ct_within_7 rfl (by omega) (fun c2 => ?_) (fun c2 => ?_)
    · refine g_iconst C d_Ct_within_14 ?_
      exact g_zretP C hr (by omega) d_Ct_within_15 (by omega)
    · refine g_iconst C d_Ct_within_10 ?_
      refine g_goto C 15 d_Ct_within_11 rfl ?_
      exact g_zretP C hr (by omega) d_Ct_within_15 (by omega)
set_option maxHeartbeats 4000000 in
set_option maxRecDepth 100000 in
theorem ct_Ct_isSpot (l : Launch) (D : va_G) (tys : xK) (A : Nat → Prop) (M : Wm) (x y : Int) (h0 : (-2147483648 ≤ x ∧ x < 2147483648) ∧ (-2147483648 ≤ y ∧ y < 2147483648)) : pT l y_Ct_isSpot b_Ct_isSpot 2 (some .boolean) { frames := 1, cells := 0, slots := 0, locals := 22 } D tys A [.int (iI x), .int (iI y)] M (qP (fun z => (z = 1 ∧ (0 ≤ x ∧ x ≤ 100) ∧ (0 ≤ y ∧ y ≤ 100)) ∨ (z = 0 ∧ ¬ ((0 ≤ x ∧ x ≤ 100) ∧ (0 ≤ y ∧ y ≤ 100))))) := by
  refine met_of (own := R_Ct) (lv := [(0, .int (iI x)), (1, .int (iI y))]) rfl (by decide) (Nat.le_of_ble_eq_true rfl) rfl ?_
  intro p_ e_ s_ m_ bl_ me_ c_ C hr hin
  refine g_iload_n C d_Ct_isSpot_0 0 rfl ?_
  refine g_iconst C d_Ct_isSpot_1 ?_
  refine g_bipush C d_Ct_isSpot_2 (by decide) ?_
  refine g_calliP C (run_S C [.int (iI x), .int (iI 0), .int (iI 100)] k_Ct_68 (ct_Ct_within l D tys A M x 0 100 (by omega)) ⟨rfl, rfl, Nat.le_of_ble_eq_true rfl, Nat.le_of_ble_eq_true rfl⟩ rfl rfl (Nat.le_of_ble_eq_true rfl) d_Ct_isSpot_4 ⟨Nat.le_of_ble_eq_true rfl, Nat.le_of_ble_eq_true rfl⟩) (fun z1 hz1 => ?_)
  refine g_if_eq C 24 d_Ct_isSpot_7 rfl (by omega) (fun c2 => ?_) (fun c2 => ?_)
  · refine g_iconst C d_Ct_isSpot_24 ?_
    exact g_zretP C hr (by omega) d_Ct_isSpot_25 (by omega)
  · refine g_iload_n C d_Ct_isSpot_10 1 rfl ?_
    refine g_iconst C d_Ct_isSpot_11 ?_
    refine g_bipush C d_Ct_isSpot_12 (by decide) ?_
    refine g_calliP C (run_S C [.int (iI y), .int (iI 0), .int (iI 100)] k_Ct_68 (ct_Ct_within l D tys A M y 0 100 (by omega)) ⟨rfl, rfl, Nat.le_of_ble_eq_true rfl, Nat.le_of_ble_eq_true rfl⟩ rfl rfl (Nat.le_of_ble_eq_true rfl) d_Ct_isSpot_14 ⟨Nat.le_of_ble_eq_true rfl, Nat.le_of_ble_eq_true rfl⟩) (fun z3 hz3 => ?_)
    refine g_if_eq C 24 d_Ct_isSpot_17 rfl (by omega) (fun c4 => ?_) (fun c4 => ?_)
    · refine g_iconst C d_Ct_isSpot_24 ?_
      exact g_zretP C hr (by omega) d_Ct_isSpot_25 (by omega)
    · refine g_iconst C d_Ct_isSpot_20 ?_
      refine g_goto C 25 d_Ct_isSpot_21 rfl ?_
      exact g_zretP C hr (by omega) d_Ct_isSpot_25 (by omega)
set_option maxHeartbeats 4000000 in
set_option maxRecDepth 100000 in
theorem ct_Ct_isDay (l : Launch) (D : va_G) (tys : xK) (A : Nat → Prop) (M : Wm) (x : Int) (h0 : (-2147483648 ≤ x ∧ x < 2147483648)) : pT l y_Ct_isDay b_Ct_isDay 1 (some .boolean) { frames := 1, cells := 0, slots := 0, locals := 22 } D tys A [.int (iI x)] M (qP (fun z => (z = 1 ∧ (0 ≤ x ∧ x ≤ 100000)) ∨ (z = 0 ∧ ¬ (0 ≤ x ∧ x ≤ 100000)))) := by
  refine met_of (own := R_Ct) (lv := [(0, .int (iI x))]) rfl (by decide) (Nat.le_of_ble_eq_true rfl) rfl ?_
  intro p_ e_ s_ m_ bl_ me_ c_ C hr hin
  refine g_iload_n C d_Ct_isDay_0 0 rfl ?_
  refine g_iconst C d_Ct_isDay_1 ?_
  refine g_ldc C 100000 q_Ct_141 d_Ct_isDay_2 ?_
  refine g_calliP C (run_S C [.int (iI x), .int (iI 0), .int (iI 100000)] k_Ct_68 (ct_Ct_within l D tys A M x 0 100000 (by omega)) ⟨rfl, rfl, Nat.le_of_ble_eq_true rfl, Nat.le_of_ble_eq_true rfl⟩ rfl rfl (Nat.le_of_ble_eq_true rfl) d_Ct_isDay_4 ⟨Nat.le_of_ble_eq_true rfl, Nat.le_of_ble_eq_true rfl⟩) (fun z1 hz1 => ?_)
  exact g_zretP C hr (by omega) d_Ct_isDay_7 (by omega)
set_option maxHeartbeats 4000000 in
set_option maxRecDepth 100000 in
theorem ct_Ct_isKind (l : Launch) (D : va_G) (tys : xK) (A : Nat → Prop) (M : Wm) (x : Int) (h0 : (-2147483648 ≤ x ∧ x < 2147483648)) : pT l y_Ct_isKind b_Ct_isKind 1 (some .boolean) { frames := 1, cells := 0, slots := 0, locals := 22 } D tys A [.int (iI x)] M (qP (fun z => (z = 1 ∧ (0 ≤ x ∧ x ≤ 4)) ∨ (z = 0 ∧ ¬ (0 ≤ x ∧ x ≤ 4)))) := by
  refine met_of (own := R_Ct) (lv := [(0, .int (iI x))]) rfl (by decide) (Nat.le_of_ble_eq_true rfl) rfl ?_
  intro p_ e_ s_ m_ bl_ me_ c_ C hr hin
  refine g_iload_n C d_Ct_isKind_0 0 rfl ?_
  refine g_iconst C d_Ct_isKind_1 ?_
  refine g_iconst C d_Ct_isKind_2 ?_
  refine g_calliP C (run_S C [.int (iI x), .int (iI 0), .int (iI 4)] k_Ct_68 (ct_Ct_within l D tys A M x 0 4 (by omega)) ⟨rfl, rfl, Nat.le_of_ble_eq_true rfl, Nat.le_of_ble_eq_true rfl⟩ rfl rfl (Nat.le_of_ble_eq_true rfl) d_Ct_isKind_3 ⟨Nat.le_of_ble_eq_true rfl, Nat.le_of_ble_eq_true rfl⟩) (fun z1 hz1 => ?_)
  exact g_zretP C hr (by omega) d_Ct_isKind_6 (by omega)
set_option maxHeartbeats 4000000 in
set_option maxRecDepth 100000 in
theorem ct_Pl_secondsTo (l : Launch) (D : va_G) (tys : xK) (A : Nat → Prop) (M : Wm) (a : Nat) (p : Nat → Int) (x y : Int) (hp : okP p) (hx : (0 ≤ x ∧ x ≤ 100) ∧ (0 ≤ y ∧ y ≤ 100)) (ha : M a = some (.inr (4, [.int (iI (p 0)), .int (iI (p 1)), .int (iI (p 2))]))) : pT l y_Pl_secondsTo b_Pl_secondsTo 3 (some .int) { frames := 1, cells := 0, slots := 0, locals := 21 } D tys A [.ref a, .int (iI x), .int (iI y)] M (qP (fun z => z = sXY (p 1) (p 2) x y)) := by
  refine met_of (own := R_Pl) (lv := [(0, .ref a), (1, .int (iI x)), (2, .int (iI y))]) rfl (by decide) (Nat.le_of_ble_eq_true rfl) rfl ?_
  intro p_ e_ s_ m_ bl_ me_ c_ C hr hin
  have hp2 := hp
  unfold okP at hp2
  have hu1 := sAbs_or (p 1) x
  have hu2 := sAbs_or (p 2) y
  refine g_aload_n C d_Pl_secondsTo_0 0 rfl ?_
  refine g_get C f_Pl_13 ha rfl d_Pl_secondsTo_1 ?_
  refine g_iload_n C d_Pl_secondsTo_4 1 rfl ?_
  refine g_isub C d_Pl_secondsTo_5 ?_
  refine g_mabs C k_Pl_19 (by omega) ⟨Nat.le_of_ble_eq_true rfl, Nat.le_of_ble_eq_true rfl, Nat.le_of_ble_eq_true rfl, Nat.le_of_ble_eq_true rfl⟩ d_Pl_secondsTo_6 ?_
  obtain ⟨z1, ez1⟩ : ∃ z : Int, z = if 0 ≤ (p 1) - x then (p 1) - x else -((p 1) - x) := ⟨_, rfl⟩
  rw [← ez1]
  have hz1 : (0 ≤ (p 1) - x ∧ z1 = (p 1) - x) ∨ ((p 1) - x < 0 ∧ z1 = -((p 1) - x)) := by rw [ez1]; split <;> omega
  refine g_aload_n C d_Pl_secondsTo_9 0 rfl ?_
  refine g_get C f_Pl_16 ha rfl d_Pl_secondsTo_10 ?_
  refine g_iload_n C d_Pl_secondsTo_13 2 rfl ?_
  refine g_isub C d_Pl_secondsTo_14 ?_
  refine g_mabs C k_Pl_19 (by omega) ⟨Nat.le_of_ble_eq_true rfl, Nat.le_of_ble_eq_true rfl, Nat.le_of_ble_eq_true rfl, Nat.le_of_ble_eq_true rfl⟩ d_Pl_secondsTo_15 ?_
  obtain ⟨z2, ez2⟩ : ∃ z : Int, z = if 0 ≤ (p 2) - y then (p 2) - y else -((p 2) - y) := ⟨_, rfl⟩
  rw [← ez2]
  have hz2 : (0 ≤ (p 2) - y ∧ z2 = (p 2) - y) ∨ ((p 2) - y < 0 ∧ z2 = -((p 2) - y)) := by rw [ez2]; split <;> omega
  refine g_iadd C d_Pl_secondsTo_18 ?_
  exact g_iretP C hr d_Pl_secondsTo_19 (by unfold sXY; omega)
set_option maxHeartbeats 4000000 in
set_option maxRecDepth 100000 in
theorem ct_Li_comesTo (l : Launch) (D : va_G) (tys : xK) (A : Nat → Prop) (M : Wm) (a b : Nat) (g p : Nat → Int) (hg : okL g) (hp : okP p) (ha : M a = some (oLi g)) (hb : M b = some (oPl p)) : pT l y_Li_comesTo b_Li_comesTo 2 (some .boolean) { frames := 1, cells := 0, slots := 0, locals := 22 } D tys A [.ref a, .ref b] M (qP (fun z => (z = 1 ∧ (g 2 ≤ p 0 ∧ p 0 ≤ g 3)) ∨ (z = 0 ∧ ¬ (g 2 ≤ p 0 ∧ p 0 ≤ g 3)))) := by
  refine met_of (own := R_Li) (lv := [(0, .ref a), (1, .ref b)]) rfl (by decide) (Nat.le_of_ble_eq_true rfl) rfl ?_
  intro p_ e_ s_ m_ bl_ me_ c_ C hr hin
  have hg2 := hg
  have hp2 := hp
  unfold okL at hg2
  unfold okP at hp2
  refine g_aload_n C d_Li_comesTo_0 1 rfl ?_
  refine g_get C f_Li_28 hb rfl d_Li_comesTo_1 ?_
  refine g_aload_n C d_Li_comesTo_4 0 rfl ?_
  refine g_get C f_Li_16 ha rfl d_Li_comesTo_5 ?_
  refine g_aload_n C d_Li_comesTo_8 0 rfl ?_
  refine g_get C f_Li_19 ha rfl d_Li_comesTo_9 ?_
  refine g_calliP C (run_S C [.int (iI (p 0)), .int (iI (g 2)), .int (iI (g 3))] k_Li_33 (ct_Ct_within l D tys A M (p 0) (g 2) (g 3) (by omega)) ⟨rfl, rfl, Nat.le_of_ble_eq_true rfl, Nat.le_of_ble_eq_true rfl⟩ rfl rfl (Nat.le_of_ble_eq_true rfl) d_Li_comesTo_12 ⟨Nat.le_of_ble_eq_true rfl, Nat.le_of_ble_eq_true rfl⟩) (fun z1 hz1 => ?_)
  exact g_zretP C hr (by omega) d_Li_comesTo_15 (by omega)
set_option maxHeartbeats 4000000 in
set_option maxRecDepth 100000 in
theorem ct_Li_secondsBetween (l : Launch) (D : va_G) (tys : xK) (A : Nat → Prop) (M : Wm) (a b d : Nat) (g p q : Nat → Int) (hg : okL g) (hp : okP p) (hq : okP q) (ha : M a = some (oLi g)) (hb : M b = some (oPl p)) (hd : M d = some (oPl q)) : pT l y_Li_secondsBetween b_Li_secondsBetween 4 (some .int) { frames := 2, cells := 0, slots := 0, locals := 43 } D tys A [.ref a, .ref b, .ref d] M (qP (fun z => z = sLift g p q)) := by
  refine met_of (own := R_Li) (lv := [(0, .ref a), (1, .ref b), (2, .ref d)]) rfl (by decide) (Nat.le_of_ble_eq_true rfl) rfl ?_
  intro p_ e_ s_ m_ bl_ me_ c_ C hr hin
  have hg2 := hg
  have hp2 := hp
  have hq2 := hq
  unfold okL at hg2
  unfold okP at hp2 hq2
  have hu := sAbs_or (p 0) (q 0)
  refine g_aload_n C d_Li_secondsBetween_0 0 rfl ?_
  refine g_get C f_Li_22 ha rfl d_Li_secondsBetween_1 ?_
  refine g_aload_n C d_Li_secondsBetween_4 0 rfl ?_
  refine g_get C f_Li_25 ha rfl d_Li_secondsBetween_5 ?_
  refine g_aload_n C d_Li_secondsBetween_8 1 rfl ?_
  refine g_get C f_Li_28 hb rfl d_Li_secondsBetween_9 ?_
  refine g_aload_n C d_Li_secondsBetween_12 2 rfl ?_
  refine g_get C f_Li_28 hd rfl d_Li_secondsBetween_13 ?_
  refine g_isub C d_Li_secondsBetween_16 ?_
  refine g_mabs C k_Li_39 (by omega) ⟨Nat.le_of_ble_eq_true rfl, Nat.le_of_ble_eq_true rfl, Nat.le_of_ble_eq_true rfl, Nat.le_of_ble_eq_true rfl⟩ d_Li_secondsBetween_17 ?_
  obtain ⟨z1, ez1⟩ : ∃ z : Int, z = if 0 ≤ (p 0) - (q 0) then (p 0) - (q 0) else -((p 0) - (q 0)) := ⟨_, rfl⟩
  rw [← ez1]
  have hz1 : (0 ≤ (p 0) - (q 0) ∧ z1 = (p 0) - (q 0)) ∨ ((p 0) - (q 0) < 0 ∧ z1 = -((p 0) - (q 0))) := by rw [ez1]; split <;> omega
  refine g_imul C d_Li_secondsBetween_20 ?_
  refine g_iadd C d_Li_secondsBetween_21 ?_
  refine g_istore_n (lv' := [(3, .int (iI ((g 4) + ((g 5) * z1)))), (0, .ref a), (1, .ref b), (2, .ref d)]) C d_Li_secondsBetween_22 (by decide) rfl ?_
  refine g_aload_n C d_Li_secondsBetween_23 2 rfl ?_
  refine g_aload_n C d_Li_secondsBetween_24 1 rfl ?_
  refine g_get C f_Li_7 ha rfl d_Li_secondsBetween_25 ?_
  refine g_aload_n C d_Li_secondsBetween_28 1 rfl ?_
  refine g_get C f_Li_13 ha rfl d_Li_secondsBetween_29 ?_
  refine g_calliP C (run_V C [.int (iI (g 0)), .int (iI (g 1))] k_Li_45 (ct_Pl_secondsTo l D tys A M b p (g 0) (g 1) hp (by omega) hb) hb ⟨rfl, rfl, Nat.le_of_ble_eq_true rfl, Nat.le_of_ble_eq_true rfl⟩ rfl rfl (Nat.le_of_ble_eq_true rfl) d_Li_secondsBetween_32 ⟨Nat.le_of_ble_eq_true rfl, Nat.le_of_ble_eq_true rfl⟩) (fun z2 hz2 => ?_)
  refine g_iload_n C d_Li_secondsBetween_35 0 rfl ?_
  refine g_iadd C d_Li_secondsBetween_36 ?_
  refine g_aload_n C d_Li_secondsBetween_37 3 rfl ?_
  refine g_aload_n C d_Li_secondsBetween_38 1 rfl ?_
  refine g_get C f_Li_7 ha rfl d_Li_secondsBetween_39 ?_
  refine g_aload_n C d_Li_secondsBetween_42 1 rfl ?_
  refine g_get C f_Li_13 ha rfl d_Li_secondsBetween_43 ?_
  refine g_calliP C (run_V C [.int (iI (g 0)), .int (iI (g 1))] k_Li_45 (ct_Pl_secondsTo l D tys A M d q (g 0) (g 1) hq (by omega) hd) hd ⟨rfl, rfl, Nat.le_of_ble_eq_true rfl, Nat.le_of_ble_eq_true rfl⟩ rfl rfl (Nat.le_of_ble_eq_true rfl) d_Li_secondsBetween_46 ⟨Nat.le_of_ble_eq_true rfl, Nat.le_of_ble_eq_true rfl⟩) (fun z3 hz3 => ?_)
  refine g_iadd C d_Li_secondsBetween_49 ?_
  exact g_iretP C hr d_Li_secondsBetween_50 (by unfold sLift; rw [hz2, hz3, show z1 = sAbs (p 0) (q 0) by omega])
set_option maxHeartbeats 4000000 in
set_option maxRecDepth 100000 in
theorem ct_Pt_dueDay (l : Launch) (D : va_G) (tys : xK) (A : Nat → Prop) (M : Wm) (a : Nat) (n : Int) (pa : Nat) (t : Nat → Int) (ht : okT t) (ha : M a = some (oPt n pa t)) : pT l y_Pt_dueDay b_Pt_dueDay 2 (some .int) { frames := 1, cells := 0, slots := 0, locals := 21 } D tys A [.ref a] M (qP (fun z => z = sDue t)) := by
  refine met_of (own := R_Pt) (lv := [(0, .ref a)]) rfl (by decide) (Nat.le_of_ble_eq_true rfl) rfl ?_
  intro p_ e_ s_ m_ bl_ me_ c_ C hr hin
  have ht2 := ht
  unfold okT at ht2
  have hu := sDue_or t
  refine g_aload_n C d_Pt_dueDay_0 0 rfl ?_
  refine g_get C f_Pt_9 ha rfl d_Pt_dueDay_1 ?_
  refine g_aload_n C d_Pt_dueDay_4 0 rfl ?_
  refine g_get C f_Pt_37 ha rfl d_Pt_dueDay_5 ?_
  refine g_iadd C d_Pt_dueDay_8 ?_
  refine g_istore_n (lv' := [(1, .int (iI ((t 5) + (t 2)))), (0, .ref a)]) C d_Pt_dueDay_9 (by decide) rfl ?_
  refine g_aload_n C d_Pt_dueDay_10 1 rfl ?_
  refine g_get C f_Pt_21 ha rfl d_Pt_dueDay_11 ?_
  refine g_iconst C d_Pt_dueDay_14 ?_
  refine g_icmp_ne C 22 d_Pt_dueDay_15 rfl (by omega) (fun c1 => ?_) (fun c1 => ?_)
  · refine g_iload_n C d_Pt_dueDay_22 0 rfl ?_
    refine g_aload_n C d_Pt_dueDay_23 1 rfl ?_
    refine g_get C f_Pt_21 ha rfl d_Pt_dueDay_24 ?_
    refine g_mmin C k_Pt_46 (by omega) ⟨Nat.le_of_ble_eq_true rfl, Nat.le_of_ble_eq_true rfl, Nat.le_of_ble_eq_true rfl, Nat.le_of_ble_eq_true rfl⟩ d_Pt_dueDay_27 ?_
    obtain ⟨z2, ez2⟩ : ∃ z : Int, z = if t 8 < (t 5) + (t 2) then t 8 else (t 5) + (t 2) := ⟨_, rfl⟩
    rw [← ez2]
    have hz2 : (t 8 < (t 5) + (t 2) ∧ z2 = t 8) ∨ (¬ t 8 < (t 5) + (t 2) ∧ z2 = (t 5) + (t 2)) := by rw [ez2]; split <;> omega
    exact g_iretP C hr d_Pt_dueDay_30 (by omega)
  · refine g_iload_n C d_Pt_dueDay_18 0 rfl ?_
    refine g_goto C 30 d_Pt_dueDay_19 rfl ?_
    exact g_iretP C hr d_Pt_dueDay_30 (by omega)
set_option maxHeartbeats 4000000 in
set_option maxRecDepth 100000 in
theorem ct_Pe_has (l : Launch) (D : va_G) (tys : xK) (A : Nat → Prop) (M : Wm) (a : Nat) (n : Int) (ha : Nat) (u : Nat → Int) (k : Int) (hu : okU u) (hk : 0 ≤ k ∧ k ≤ 7) (hc : M a = some (oPe n ha u)) : pT l y_Pe_has b_Pe_has 2 (some .boolean) { frames := 0, cells := 0, slots := 0, locals := 0 } D tys A [.ref a, .int (iI k)] M (qP (fun z => (z = 1 ∧ sBit (u 0) k = 1) ∨ (z = 0 ∧ ¬ sBit (u 0) k = 1))) := by
  refine met_of (own := R_Pe) (lv := [(0, .ref a), (1, .int (iI k))]) rfl (by decide) (Nat.le_of_ble_eq_true rfl) rfl ?_
  intro p_ e_ s_ m_ bl_ me_ c_ C hr hin
  have hu2 := hu
  unfold okU at hu2
  have hb := sBit_b (u 0) k
  refine g_aload_n C d_Pe_has_0 0 rfl ?_
  refine g_get C f_Pe_13 hc rfl d_Pe_has_1 ?_
  refine g_iload_n C d_Pe_has_4 1 rfl ?_
  refine g_ishr C (((u 0).toNat / 2 ^ k.toNat : Nat) : Int) (shr_i (by omega) (by omega)) d_Pe_has_5 ?_
  refine g_iconst C d_Pe_has_6 ?_
  refine g_iand C (sBit (u 0) k) (and1_i (by omega)) d_Pe_has_7 ?_
  refine g_iconst C d_Pe_has_8 ?_
  refine g_icmp_ne C 16 d_Pe_has_9 rfl (by omega) (fun c1 => ?_) (fun c1 => ?_)
  · refine g_iconst C d_Pe_has_16 ?_
    exact g_zretP C hr (by omega) d_Pe_has_17 (by omega)
  · refine g_iconst C d_Pe_has_12 ?_
    refine g_goto C 17 d_Pe_has_13 rfl ?_
    exact g_zretP C hr (by omega) d_Pe_has_17 (by omega)
set_option maxHeartbeats 4000000 in
set_option maxRecDepth 100000 in
theorem ct_Ho_secondsBetween (l : Launch) (D : va_G) (tys : xK) (A : Nat → Prop) (M : Wm) (hT : tyOK tys) (h a b nl : Nat) (lf : Nat → Nat → Int) (p q : Nat → Int) (hp : okP p) (hq : okP q) (hH : HoA tys M h nl lf) (ha : M a = some (oPl p)) (hb : M b = some (oPl q)) : pT l y_Ho_secondsBetween b_Ho_secondsBetween 6 (some .int) { frames := 3, cells := 0, slots := 0, locals := 66 } D tys A [.ref h, .ref a, .ref b] M (qP (fun z => z = sWay nl lf p q)) := by
  refine met_of (own := R_Ho) (lv := [(0, .ref h), (1, .ref a), (2, .ref b)]) rfl (by decide) (Nat.le_of_ble_eq_true rfl) rfl ?_
  intro p_ e_ s_ m_ bl_ me_ c_ C hr hin
  obtain ⟨hnl, hok, pa, la, np, gl, hh, hla, hlf⟩ := hH
  obtain ⟨-, -, -, hT3, -⟩ := hT
  have hp2 := hp
  have hq2 := hq
  unfold okP at hp2 hq2
  refine g_aload_n C d_Ho_secondsBetween_0 1 rfl ?_
  refine g_get C f_Ho_34 ha rfl d_Ho_secondsBetween_1 ?_
  refine g_aload_n C d_Ho_secondsBetween_4 2 rfl ?_
  refine g_get C f_Ho_34 hb rfl d_Ho_secondsBetween_5 ?_
  refine g_icmp_ne C 24 d_Ho_secondsBetween_8 rfl (by omega) (fun c1 => ?_) (fun c1 => ?_)
  · refine g_iconst C d_Ho_secondsBetween_24 ?_
    refine g_istore_n (lv' := [(3, .int (iI ((-1)))), (0, .ref h), (1, .ref a), (2, .ref b)]) C d_Ho_secondsBetween_25 (by decide) rfl ?_
    refine g_iconst C d_Ho_secondsBetween_26 ?_
    refine g_istore (lv' := [(4, .int (iI 0)), (3, .int (iI ((-1)))), (0, .ref h), (1, .ref a), (2, .ref b)]) C d_Ho_secondsBetween_27 (by decide) rfl ?_
    refine g_sub [2, 3, 4, 1, 0] rfl (g_loop (σ := Nat) (fun x => nl - x) (fun x => (x ≤ nl)) (fun x => [(0, .ref h), (1, .ref a), (2, .ref b), (3, .int (iI (sWayL lf p q x))), (4, .int (iI ((x : Int))))]) (fun x => M) ?_ (0) (Nat.zero_le _))
    intro x_ hI ih29
    obtain ⟨k, rfl⟩ : ∃ z, z = x_ := ⟨_, rfl⟩
    try dsimp only at hI ih29 ⊢
    obtain hk0 := hI
    refine g_iload C d_Ho_secondsBetween_29 4 rfl ?_
    refine g_aload_n C d_Ho_secondsBetween_31 0 rfl ?_
    refine g_get C f_Ho_27 hh rfl d_Ho_secondsBetween_32 ?_
    refine g_icmp_ge C 103 d_Ho_secondsBetween_35 rfl (by omega) (fun c2 => ?_) (fun c2 => ?_)
    · refine g_iload_n C d_Ho_secondsBetween_103 3 rfl ?_
      exact g_iretP C hr d_Ho_secondsBetween_104 (by unfold sWay; rw [if_neg (by omega), show k = nl by omega])
    · have hk : k < nl := by omega
      obtain ⟨xk, hxk, hck⟩ := hlf k hk
      have hok9 := hok k hk
      have hok8 := hok9
      unfold okL at hok8
      have hsb := sLift_b hok9 hp hq
      have hwb := sWayL_b (nl := k) (fun j hj => hok j (by omega)) hp hq
      refine g_aload_n C d_Ho_secondsBetween_38 0 rfl ?_
      refine g_get C f_Ho_19 hh rfl d_Ho_secondsBetween_39 ?_
      refine g_iload C d_Ho_secondsBetween_42 4 rfl ?_
      refine g_aald C 3 hT3 hla (by omega) hxk d_Ho_secondsBetween_44 ?_
      refine g_aload_n C d_Ho_secondsBetween_45 1 rfl ?_
      refine g_calliP C (run_V C [.ref a] k_Ho_47 (ct_Li_comesTo l D tys A M xk a (lf k) p hok9 hp hck ha) hck ⟨rfl, rfl, Nat.le_of_ble_eq_true rfl, Nat.le_of_ble_eq_true rfl⟩ rfl rfl (Nat.le_of_ble_eq_true rfl) d_Ho_secondsBetween_46 ⟨Nat.le_of_ble_eq_true rfl, Nat.le_of_ble_eq_true rfl⟩) (fun z3 hz3 => ?_)
      refine g_if_eq C 97 d_Ho_secondsBetween_49 rfl (by omega) (fun c4 => ?_) (fun c4 => ?_)
      · refine g_iinc (lv' := [(4, .int (iI (((k : Int)) + 1))), (0, .ref h), (1, .ref a), (2, .ref b), (3, .int (iI (sWayL lf p q k)))]) C d_Ho_secondsBetween_97 4 rfl (by decide) rfl ?_
        refine g_goto C 29 d_Ho_secondsBetween_100 rfl ?_
        have hE : sWayL lf p q (k + 1) = sWayL lf p q k := by
          rw [sWayL.eq_2, if_neg (by omega)]
        rw [← hE]
        exact g_sub [1, 2, 3, 4, 0] rfl (ih29 (k + 1) (by omega) (by first | omega | (dsimp only; omega)))
      · refine g_aload_n C d_Ho_secondsBetween_52 0 rfl ?_
        refine g_get C f_Ho_19 hh rfl d_Ho_secondsBetween_53 ?_
        refine g_iload C d_Ho_secondsBetween_56 4 rfl ?_
        refine g_aald C 3 hT3 hla (by omega) hxk d_Ho_secondsBetween_58 ?_
        refine g_aload_n C d_Ho_secondsBetween_59 2 rfl ?_
        refine g_calliP C (run_V C [.ref b] k_Ho_47 (ct_Li_comesTo l D tys A M xk b (lf k) q hok9 hq hck hb) hck ⟨rfl, rfl, Nat.le_of_ble_eq_true rfl, Nat.le_of_ble_eq_true rfl⟩ rfl rfl (Nat.le_of_ble_eq_true rfl) d_Ho_secondsBetween_60 ⟨Nat.le_of_ble_eq_true rfl, Nat.le_of_ble_eq_true rfl⟩) (fun z5 hz5 => ?_)
        refine g_if_eq C 97 d_Ho_secondsBetween_63 rfl (by omega) (fun c6 => ?_) (fun c6 => ?_)
        · refine g_iinc (lv' := [(4, .int (iI (((k : Int)) + 1))), (0, .ref h), (1, .ref a), (2, .ref b), (3, .int (iI (sWayL lf p q k)))]) C d_Ho_secondsBetween_97 4 rfl (by decide) rfl ?_
          refine g_goto C 29 d_Ho_secondsBetween_100 rfl ?_
          have hE : sWayL lf p q (k + 1) = sWayL lf p q k := by
            rw [sWayL.eq_2, if_neg (by omega)]
          rw [← hE]
          exact g_sub [1, 2, 3, 4, 0] rfl (ih29 (k + 1) (by omega) (by first | omega | (dsimp only; omega)))
        · refine g_aload_n C d_Ho_secondsBetween_66 0 rfl ?_
          refine g_get C f_Ho_19 hh rfl d_Ho_secondsBetween_67 ?_
          refine g_iload C d_Ho_secondsBetween_70 4 rfl ?_
          refine g_aald C 3 hT3 hla (by omega) hxk d_Ho_secondsBetween_72 ?_
          refine g_aload_n C d_Ho_secondsBetween_73 1 rfl ?_
          refine g_aload_n C d_Ho_secondsBetween_74 2 rfl ?_
          refine g_calliP C (run_V C [.ref a, .ref b] k_Ho_51 (ct_Li_secondsBetween l D tys A M xk a b (lf k) p q hok9 hp hq hck ha hb) hck ⟨rfl, rfl, Nat.le_of_ble_eq_true rfl, Nat.le_of_ble_eq_true rfl⟩ rfl rfl (Nat.le_of_ble_eq_true rfl) d_Ho_secondsBetween_75 ⟨Nat.le_of_ble_eq_true rfl, Nat.le_of_ble_eq_true rfl⟩) (fun z7 hz7 => ?_)
          refine g_istore (lv' := [(5, .int (iI z7)), (0, .ref h), (1, .ref a), (2, .ref b), (3, .int (iI (sWayL lf p q k))), (4, .int (iI ((k : Int))))]) C d_Ho_secondsBetween_78 (by decide) rfl ?_
          refine g_iload_n C d_Ho_secondsBetween_80 4 rfl ?_
          refine g_iconst C d_Ho_secondsBetween_81 ?_
          refine g_icmp_ne C 90 d_Ho_secondsBetween_82 rfl (by omega) (fun c8 => ?_) (fun c8 => ?_)
          · refine g_iload_n C d_Ho_secondsBetween_90 4 rfl ?_
            refine g_iload C d_Ho_secondsBetween_91 0 rfl ?_
            refine g_mmin C k_Ho_55 (by omega) ⟨Nat.le_of_ble_eq_true rfl, Nat.le_of_ble_eq_true rfl, Nat.le_of_ble_eq_true rfl, Nat.le_of_ble_eq_true rfl⟩ d_Ho_secondsBetween_93 ?_
            obtain ⟨z9, ez9⟩ : ∃ z : Int, z = if z7 < sWayL lf p q k then z7 else sWayL lf p q k := ⟨_, rfl⟩
            rw [← ez9]
            have hz9 : (z7 < sWayL lf p q k ∧ z9 = z7) ∨ (¬ z7 < sWayL lf p q k ∧ z9 = sWayL lf p q k) := by rw [ez9]; split <;> omega
            refine g_istore_n (lv' := [(3, .int (iI z9)), (5, .int (iI z7)), (0, .ref h), (1, .ref a), (2, .ref b), (4, .int (iI ((k : Int))))]) C d_Ho_secondsBetween_96 (by decide) rfl ?_
            refine g_iinc (lv' := [(4, .int (iI (((k : Int)) + 1))), (3, .int (iI z9)), (5, .int (iI z7)), (0, .ref h), (1, .ref a), (2, .ref b)]) C d_Ho_secondsBetween_97 5 rfl (by decide) rfl ?_
            refine g_goto C 29 d_Ho_secondsBetween_100 rfl ?_
            have hE : z9 = sWayL lf p q (k + 1) := by
              rw [sWayL.eq_2, if_pos (by omega)]
              first | (rw [if_pos (by omega)]; omega) | (rw [if_neg (by omega)]; split <;> omega)
            rw [hE]
            exact g_sub [3, 4, 5, 1, 0] rfl (ih29 (k + 1) (by omega) (by first | omega | (dsimp only; omega)))
          · refine g_iload C d_Ho_secondsBetween_85 0 rfl ?_
            refine g_goto C 96 d_Ho_secondsBetween_87 rfl ?_
            refine g_istore_n (lv' := [(3, .int (iI z7)), (5, .int (iI z7)), (0, .ref h), (1, .ref a), (2, .ref b), (4, .int (iI ((k : Int))))]) C d_Ho_secondsBetween_96 (by decide) rfl ?_
            refine g_iinc (lv' := [(4, .int (iI (((k : Int)) + 1))), (3, .int (iI z7)), (5, .int (iI z7)), (0, .ref h), (1, .ref a), (2, .ref b)]) C d_Ho_secondsBetween_97 5 rfl (by decide) rfl ?_
            refine g_goto C 29 d_Ho_secondsBetween_100 rfl ?_
            have hE : z7 = sWayL lf p q (k + 1) := by
              rw [sWayL.eq_2, if_pos (by omega)]
              first | (rw [if_pos (by omega)]; omega) | (rw [if_neg (by omega)]; split <;> omega)
            rw [hE]
            exact g_sub [3, 4, 5, 1, 0] rfl (ih29 (k + 1) (by omega) (by first | omega | (dsimp only; omega)))
  · refine g_aload_n C d_Ho_secondsBetween_11 1 rfl ?_
    refine g_aload_n C d_Ho_secondsBetween_12 2 rfl ?_
    refine g_get C f_Ho_37 hb rfl d_Ho_secondsBetween_13 ?_
    refine g_aload_n C d_Ho_secondsBetween_16 2 rfl ?_
    refine g_get C f_Ho_40 hb rfl d_Ho_secondsBetween_17 ?_
    refine g_calliP C (run_V C [.int (iI (q 1)), .int (iI (q 2))] k_Ho_43 (ct_Pl_secondsTo l D tys A M a p (q 1) (q 2) hp (by omega) ha) ha ⟨rfl, rfl, Nat.le_of_ble_eq_true rfl, Nat.le_of_ble_eq_true rfl⟩ rfl rfl (Nat.le_of_ble_eq_true rfl) d_Ho_secondsBetween_20 ⟨Nat.le_of_ble_eq_true rfl, Nat.le_of_ble_eq_true rfl⟩) (fun z10 hz10 => ?_)
    exact g_iretP C hr d_Ho_secondsBetween_23 (by unfold sWay; rw [if_pos (by omega)]; assumption)
