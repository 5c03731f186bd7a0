/-! LEAVES of the class: written by program (wip/whole/gen/leaf.py) -/
set_option maxHeartbeats 4000000 in
set_option maxRecDepth 100000 in
theorem ct_Ct_within (l : Launch) (D : va_G) (tys : xK) (A : Nat → Prop) (M : Wm) (n lo hi : Int) (h0 : (-2147483648 ≤ n ∧ n < 2147483648) ∧ (-2147483648 ≤ lo ∧ lo < 2147483648) ∧ (-2147483648 ≤ hi ∧ hi < 2147483648)) : pT l y_Ct_within b_Ct_within 3 (some .boolean) { frames := 0, cells := 0, slots := 0, locals := 0 } D tys A [.int (iI n), .int (iI lo), .int (iI hi)] M (qP (fun z => (z = 1 ∧ lo ≤ n ∧ n ≤ hi) ∨ (z = 0 ∧ ¬ (lo ≤ n ∧ n ≤ hi)))) := by
  refine met_of (own := R_Ct) (lv := [(0, .int (iI n)), (1, .int (iI lo)), (2, .int (iI hi))]) rfl (by decide) (Nat.le_of_ble_eq_true rfl) rfl ?_
  intro p_ e_ s_ m_ bl_ me_ c_ C hr hin
  refine g_iload_n C d_Ct_within_0 0 rfl ?_
  refine g_iload_n C d_Ct_within_1 1 rfl ?_
  refine g_icmp_lt C 14 d_Ct_within_2 rfl (by omega) (fun c1 => ?_) (fun c1 => ?_)
  · refine g_iconst C d_Ct_within_14 ?_
    exact g_zretP C hr (by omega) d_Ct_within_15 (by omega)
  · refine g_iload_n C d_Ct_within_5 0 rfl ?_
    refine g_iload_n C d_Ct_within_6 2 rfl ?_
    refine g_icmp_gt C 14 d_Ct_within_7 rfl (by omega) (fun c2 => ?_) (fun c2 => ?_)
    · refine g_iconst C d_Ct_within_14 ?_
      exact g_zretP C hr (by omega) d_Ct_within_15 (by omega)
    · refine g_iconst C d_Ct_within_10 ?_
      refine g_goto C 15 d_Ct_within_11 rfl ?_
      exact g_zretP C hr (by omega) d_Ct_within_15 (by omega)
set_option maxHeartbeats 4000000 in
set_option maxRecDepth 100000 in
theorem ct_Ct_isSpot (l : Launch) (D : va_G) (tys : xK) (A : Nat → Prop) (M : Wm) (x y : Int) (h0 : (-2147483648 ≤ x ∧ x < 2147483648) ∧ (-2147483648 ≤ y ∧ y < 2147483648)) : pT l y_Ct_isSpot b_Ct_isSpot 2 (some .boolean) { frames := 1, cells := 0, slots := 0, locals := 22 } D tys A [.int (iI x), .int (iI y)] M (qP (fun z => (z = 1 ∧ (0 ≤ x ∧ x ≤ 100) ∧ (0 ≤ y ∧ y ≤ 100)) ∨ (z = 0 ∧ ¬ ((0 ≤ x ∧ x ≤ 100) ∧ (0 ≤ y ∧ y ≤ 100))))) := by
  refine met_of (own := R_Ct) (lv := [(0, .int (iI x)), (1, .int (iI y))]) rfl (by decide) (Nat.le_of_ble_eq_true rfl) rfl ?_
  intro p_ e_ s_ m_ bl_ me_ c_ C hr hin
  refine g_iload_n C d_Ct_isSpot_0 0 rfl ?_
  refine g_iconst C d_Ct_isSpot_1 ?_
  refine g_bipush C d_Ct_isSpot_2 (by decide) ?_
  refine g_calliP C (run_S C [.int (iI x), .int (iI 0), .int (iI 100)] k_Ct_68 (ct_Ct_within l D tys A M x 0 100 (by omega)) ⟨rfl, rfl, Nat.le_of_ble_eq_true rfl, Nat.le_of_ble_eq_true rfl⟩ rfl rfl (Nat.le_of_ble_eq_true rfl) d_Ct_isSpot_4 ⟨Nat.le_of_ble_eq_true rfl, Nat.le_of_ble_eq_true rfl⟩) (fun z1 hz1 => ?_)
  refine g_if_eq C 24 d_Ct_isSpot_7 rfl (by omega) (fun c2 => ?_) (fun c2 => ?_)
  · refine g_iconst C d_Ct_isSpot_24 ?_
    exact g_zretP C hr (by omega) d_Ct_isSpot_25 (by omega)
  · refine g_iload_n C d_Ct_isSpot_10 1 rfl ?_
    refine g_iconst C d_Ct_isSpot_11 ?_
    refine g_bipush C d_Ct_isSpot_12 (by decide) ?_
    refine g_calliP C (run_S C [.int (iI y), .int (iI 0), .int (iI 100)] k_Ct_68 (ct_Ct_within l D tys A M y 0 100 (by omega)) ⟨rfl, rfl, Nat.le_of_ble_eq_true rfl, Nat.le_of_ble_eq_true rfl⟩ rfl rfl (Nat.le_of_ble_eq_true rfl) d_Ct_isSpot_14 ⟨Nat.le_of_ble_eq_true rfl, Nat.le_of_ble_eq_true rfl⟩) (fun z3 hz3 => ?_)
    refine g_if_eq C 24 d_Ct_isSpot_17 rfl (by omega) (fun c4 => ?_) (fun c4 => ?_)
    · refine g_iconst C d_Ct_isSpot_24 ?_
      exact g_zretP C hr (by omega) d_Ct_isSpot_25 (by omega)
    · refine g_iconst C d_Ct_isSpot_20 ?_
      refine g_goto C 25 d_Ct_isSpot_21 rfl ?_
      exact g_zretP C hr (by omega) d_Ct_isSpot_25 (by omega)
set_option maxHeartbeats 4000000 in
set_option maxRecDepth 100000 in
theorem ct_Ct_isDay (l : Launch) (D : va_G) (tys : xK) (A : Nat → Prop) (M : Wm) (x : Int) (h0 : (-2147483648 ≤ x ∧ x < 2147483648)) : pT l y_Ct_isDay b_Ct_isDay 1 (some .boolean) { frames := 1, cells := 0, slots := 0, locals := 22 } D tys A [.int (iI x)] M (qP (fun z => (z = 1 ∧ (0 ≤ x ∧ x ≤ 100000)) ∨ (z = 0 ∧ ¬ (0 ≤ x ∧ x ≤ 100000)))) := by
  refine met_of (own := R_Ct) (lv := [(0, .int (iI x))]) rfl (by decide) (Nat.le_of_ble_eq_true rfl) rfl ?_
  intro p_ e_ s_ m_ bl_ me_ c_ C hr hin
  refine g_iload_n C d_Ct_isDay_0 0 rfl ?_
  refine g_iconst C d_Ct_isDay_1 ?_
  refine g_ldc C 100000 q_Ct_141 d_Ct_isDay_2 ?_
  refine g_calliP C (run_S C [.int (iI x), .int (iI 0), .int (iI 100000)] k_Ct_68 (ct_Ct_within l D tys A M x 0 100000 (by omega)) ⟨rfl, rfl, Nat.le_of_ble_eq_true rfl, Nat.le_of_ble_eq_true rfl⟩ rfl rfl (Nat.le_of_ble_eq_true rfl) d_Ct_isDay_4 ⟨Nat.le_of_ble_eq_true rfl, Nat.le_of_ble_eq_true rfl⟩) (fun z1 hz1 => ?_)
  exact g_zretP C hr (by omega) d_Ct_isDay_7 (by omega)
set_option maxHeartbeats 4000000 in
set_option maxRecDepth 100000 in
theorem ct_Ct_isKind (l : Launch) (D : va_G) (tys : xK) (A : Nat → Prop) (M : Wm) (x : Int) (h0 : (-2147483648 ≤ x ∧ x < 2147483648)) : pT l y_Ct_isKind b_Ct_isKind 1 (some .boolean) { frames := 1, cells := 0, slots := 0, locals := 22 } D tys A [.int (iI x)] M (qP (fun z => (z = 1 ∧ (0 ≤ x ∧ x ≤ 4)) ∨ (z = 0 ∧ ¬ (0 ≤ x ∧ x ≤ 4)))) := by
  refine met_of (own := R_Ct) (lv := [(0, .int (iI x))]) rfl (by decide) (Nat.le_of_ble_eq_true rfl) rfl ?_
  intro p_ e_ s_ m_ bl_ me_ c_ C hr hin
  refine g_iload_n C d_Ct_isKind_0 0 rfl ?_
  refine g_iconst C d_Ct_isKind_1 ?_
  refine g_iconst C d_Ct_isKind_2 ?_
  refine g_calliP C (run_S C [.int (iI x), .int (iI 0), .int (iI 4)] k_Ct_68 (ct_Ct_within l D tys A M x 0 4 (by omega)) ⟨rfl, rfl, Nat.le_of_ble_eq_true rfl, Nat.le_of_ble_eq_true rfl⟩ rfl rfl (Nat.le_of_ble_eq_true rfl) d_Ct_isKind_3 ⟨Nat.le_of_ble_eq_true rfl, Nat.le_of_ble_eq_true rfl⟩) (fun z1 hz1 => ?_)
  exact g_zretP C hr (by omega) d_Ct_isKind_6 (by omega)
set_option maxHeartbeats 4000000 in
set_option maxRecDepth 100000 in
theorem ct_Pl_secondsTo (l : Launch) (D : va_G) (tys : xK) (A : Nat → Prop) (M : Wm) (a : Nat) (p : Nat → Int) (x y : Int) (hp : okP p) (hx : (0 ≤ x ∧ x ≤ 100) ∧ (0 ≤ y ∧ y ≤ 100)) (ha : M a = some (.inr (4, [.int (iI (p 0)), .int (iI (p 1)), .int (iI (p 2))]))) : pT l y_Pl_secondsTo b_Pl_secondsTo 3 (some .int) { frames := 1, cells := 0, slots := 0, locals := 21 } D tys A [.ref a, .int (iI x), .int (iI y)] M (qP (fun z => z = sXY (p 1) (p 2) x y)) := by
  refine met_of (own := R_Pl) (lv := [(0, .ref a), (1, .int (iI x)), (2, .int (iI y))]) rfl (by decide) (Nat.le_of_ble_eq_true rfl) rfl ?_
  intro p_ e_ s_ m_ bl_ me_ c_ C hr hin
  have hp2 := hp
  unfold okP at hp2
  have hu1 := sAbs_or (p 1) x
  have hu2 := sAbs_or (p 2) y
  refine g_aload_n C d_Pl_secondsTo_0 0 rfl ?_
  refine g_get C f_Pl_13 ha rfl d_Pl_secondsTo_1 ?_
  refine g_iload_n C d_Pl_secondsTo_4 1 rfl ?_
  refine g_isub C d_Pl_secondsTo_5 ?_
  refine g_mabs C k_Pl_19 (by omega) ⟨Nat.le_of_ble_eq_true rfl, Nat.le_of_ble_eq_true rfl, Nat.le_of_ble_eq_true rfl, Nat.le_of_ble_eq_true rfl⟩ d_Pl_secondsTo_6 ?_
  obtain ⟨z1, ez1⟩ : ∃ z : Int, z = if 0 ≤ (p 1) - x then (p 1) - x else -((p 1) - x) := ⟨_, rfl⟩
  rw [← ez1]
  have hz1 : (0 ≤ (p 1) - x ∧ z1 = (p 1) - x) ∨ ((p 1) - x < 0 ∧ z1 = -((p 1) - x)) := by rw [ez1]; split <;> omega
  refine g_aload_n C d_Pl_secondsTo_9 0 rfl ?_
  refine g_get C f_Pl_16 ha rfl d_Pl_secondsTo_10 ?_
  refine g_iload_n C d_Pl_secondsTo_13 2 rfl ?_
  refine g_isub C d_Pl_secondsTo_14 ?_
  refine g_mabs C k_Pl_19 (by omega) ⟨Nat.le_of_ble_eq_true rfl, Nat.le_of_ble_eq_true rfl, Nat.le_of_ble_eq_true rfl, Nat.le_of_ble_eq_true rfl⟩ d_Pl_secondsTo_15 ?_
  obtain ⟨z2, ez2⟩ : ∃ z : Int, z = if 0 ≤ (p 2) - y then (p 2) - y else -((p 2) - y) := ⟨_, rfl⟩
  rw [← ez2]
  have hz2 : (0 ≤ (p 2) - y ∧ z2 = (p 2) - y) ∨ ((p 2) - y < 0 ∧ z2 = -((p 2) - y)) := by rw [ez2]; split <;> omega
  refine g_iadd C d_Pl_secondsTo_18 ?_
  exact g_iretP C hr d_Pl_secondsTo_19 (by unfold sXY; omega)
