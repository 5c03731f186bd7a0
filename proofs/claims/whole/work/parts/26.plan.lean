/-! THE PLANNER: written by program (wip/whole/gen/plan.py) -/
set_option maxHeartbeats 4000000 in
set_option maxRecDepth 100000 in
theorem ct_Pn_legOf (l : Launch) (D : va_G) (tys : xK) (A : Nat → Prop) (M : Wm) (hT : tyOK tys) (h a b nl : Nat) (lf : Nat → Nat → Int) (p q : Nat → Int) (hp : okP p) (hq : okP q) (hH : HoA tys M h nl lf) (ha : M a = some (oPl p)) (hb : M b = some (oPl q)) : pT l y_Pn_legOf b_Pn_legOf 4 (some .int) { frames := 4, cells := 0, slots := 0, locals := 91 } D tys A [.ref h, .ref a, .ref b] M (qP (fun z => z = sLeg (sWay nl lf p q))) := by
  refine met_of (own := R_Pn) (lv := [(0, .ref h), (1, .ref a), (2, .ref b)]) rfl (by decide) (Nat.le_of_ble_eq_true rfl) rfl ?_
  intro p_ e_ s_ m_ bl_ me_ c_ C hr hin
  have hT0 := hT
  have hlok := hH.2.1
  obtain ⟨-, -, pa9, la9, np9, gl9, hh9, -⟩ := id hH
  have hlg := sLeg_or (sWay nl lf p q)
  refine g_aload_n C d_Pn_legOf_0 0 rfl ?_
  refine g_aload_n C d_Pn_legOf_1 1 rfl ?_
  refine g_aload_n C d_Pn_legOf_2 2 rfl ?_
  refine g_calliP C (run_V C [.ref a, .ref b] k_Pn_36 (ct_Ho_secondsBetween l D tys A M hT0 h a b nl lf p q hp hq hH ha hb) hh9 ⟨rfl, rfl, Nat.le_of_ble_eq_true rfl, Nat.le_of_ble_eq_true rfl⟩ rfl rfl (Nat.le_of_ble_eq_true rfl) d_Pn_legOf_3 ⟨Nat.le_of_ble_eq_true rfl, Nat.le_of_ble_eq_true rfl⟩) (fun z1 hz1 => ?_)
  have hbz1 := sWay_b (nl := nl) hlok hp hq
  refine g_istore_n (lv' := [(3, .int (iI z1)), (0, .ref h), (1, .ref a), (2, .ref b)]) C d_Pn_legOf_6 (by decide) rfl ?_
  refine g_iload_n C d_Pn_legOf_7 0 rfl ?_
  refine g_iconst C d_Pn_legOf_8 ?_
  refine g_icmp_ne C 17 d_Pn_legOf_9 rfl (by omega) (fun c2 => ?_) (fun c2 => ?_)
  · refine g_iload_n C d_Pn_legOf_17 0 rfl ?_
    exact g_iretP C hr d_Pn_legOf_18 (by omega)
  · refine g_ldc C 1000000 q_Pn_42 d_Pn_legOf_12 ?_
    refine g_goto C 18 d_Pn_legOf_14 rfl ?_
    exact g_iretP C hr d_Pn_legOf_18 (by omega)
set_option maxHeartbeats 4000000 in
set_option maxRecDepth 100000 in
theorem ct_Pn_isIn (l : Launch) (D : va_G) (tys : xK) (A : Nat → Prop) (M : Wm) (v S : Nat) (hv : v ≤ 7) (hS : S ≤ 255) : pT l y_Pn_isIn b_Pn_isIn 2 (some .boolean) { frames := 0, cells := 0, slots := 0, locals := 0 } D tys A [.int (iI ((v : Int))), .int (iI ((S : Int)))] M (qP (fun z => (z = 1 ∧ nb S v = 1) ∨ (z = 0 ∧ nb S v = 0))) := by
  refine met_of (own := R_Pn) (lv := [(0, .int (iI ((v : Int)))), (1, .int (iI ((S : Int))))]) rfl (by decide) (Nat.le_of_ble_eq_true rfl) rfl ?_
  intro p_ e_ s_ m_ bl_ me_ c_ C hr hin
  have hb := sBit_nb S v
  have h01 := nb_01 S v
  refine g_iload_n C d_Pn_isIn_0 1 rfl ?_
  refine g_iload_n C d_Pn_isIn_1 0 rfl ?_
  refine g_ishr C ((((S : Int)).toNat / 2 ^ ((v : Int)).toNat : Nat) : Int) (shr_i (by omega) (by omega)) d_Pn_isIn_2 ?_
  refine g_iconst C d_Pn_isIn_3 ?_
  refine g_iand C (sBit ((S : Int)) ((v : Int))) (and1_i (by omega)) d_Pn_isIn_4 ?_
  refine g_iconst C d_Pn_isIn_5 ?_
  refine g_icmp_ne C 13 d_Pn_isIn_6 rfl (by omega) (fun c1 => ?_) (fun c1 => ?_)
  · refine g_iconst C d_Pn_isIn_13 ?_
    exact g_zretP C hr (by omega) d_Pn_isIn_14 (by omega)
  · refine g_iconst C d_Pn_isIn_9 ?_
    refine g_goto C 14 d_Pn_isIn_10 rfl ?_
    exact g_zretP C hr (by omega) d_Pn_isIn_14 (by omega)
set_option maxHeartbeats 4000000 in
set_option maxRecDepth 100000 in
theorem ct_Pn_firstOnes (l : Launch) (D : va_G) (tys : xK) (A : Nat → Prop) (M : Wm) (n : Nat) (hn : n ≤ 7) : pT l y_Pn_firstOnes b_Pn_firstOnes 1 (some .int) { frames := 0, cells := 0, slots := 0, locals := 0 } D tys A [.int (iI ((n : Int)))] M (qP (fun z => z = ((2 ^ n : Nat) : Int) - 1)) := by
  refine met_of (own := R_Pn) (lv := [(0, .int (iI ((n : Int))))]) rfl (by decide) (Nat.le_of_ble_eq_true rfl) rfl ?_
  intro p_ e_ s_ m_ bl_ me_ c_ C hr hin
  refine g_iconst C d_Pn_firstOnes_0 ?_
  refine g_iload_n C d_Pn_firstOnes_1 0 rfl ?_
  refine g_ishl C ((2 ^ ((n : Int)).toNat : Nat) : Int) (shl_i (by omega)) d_Pn_firstOnes_2 ?_
  refine g_iconst C d_Pn_firstOnes_3 ?_
  refine g_isub C d_Pn_firstOnes_4 ?_
  exact g_iretP C hr d_Pn_firstOnes_5 (by rw [show (n : Int).toNat = n by omega])
set_option maxHeartbeats 4000000 in
set_option maxRecDepth 100000 in
theorem ct_Pn_restBy (l : Launch) (D : va_G) (tys : xK) (A : Nat → Prop) (M : Wm) (hT : tyOK tys) (a ca ga ra n : Nat) (L T : Nat → Int) (hn : n ≤ 7) (hL : inB L) (hTb : inB T) (v k S : Nat) (hv : v ≤ 7) (hk : k < 7) (hS : S < 128) (hb : nb S k = 1) (hpn : M a = some (.inr (5, [.ref ca, .ref ga, .ref ra, .int (iI ((n : Int)))]))) (hga : M ga = some (aI tys 64 L)) (hra : M ra = some (aI tys 1024 T)) : pT l y_Pn_restBy b_Pn_restBy 4 (some .int) { frames := 0, cells := 0, slots := 0, locals := 0 } D tys A [.ref a, .int (iI ((v : Int))), .int (iI ((k : Int))), .int (iI ((S : Int)))] M (qP (fun z => z = L (v * 8 + k) + T ((S - 2 ^ k) * 8 + k))) := by
  refine met_of (own := R_Pn) (lv := [(0, .ref a), (1, .int (iI ((v : Int)))), (2, .int (iI ((k : Int)))), (3, .int (iI ((S : Int))))]) rfl (by decide) (Nat.le_of_ble_eq_true rfl) rfl ?_
  intro p_ e_ s_ m_ bl_ me_ c_ C hr hin
  obtain ⟨hT0, -⟩ := hT
  have hle := nb_le hb
  have hpw := pw_b (k := k) (by omega)
  have ek : (k : Int).toNat = k := by omega
  refine g_aload_n C d_Pn_restBy_0 0 rfl ?_
  refine g_get C f_Pn_17 hpn rfl d_Pn_restBy_1 ?_
  refine g_iload_n C d_Pn_restBy_4 1 rfl ?_
  refine g_bipush C d_Pn_restBy_5 (by decide) ?_
  refine g_imul C d_Pn_restBy_7 ?_
  refine g_iload_n C d_Pn_restBy_8 2 rfl ?_
  refine g_iadd C d_Pn_restBy_9 ?_
  refine g_iald C 0 hT0 hga (by omega) d_Pn_restBy_10 ?_
  refine g_aload_n C d_Pn_restBy_11 0 rfl ?_
  refine g_get C f_Pn_21 hpn rfl d_Pn_restBy_12 ?_
  refine g_iload_n C d_Pn_restBy_15 3 rfl ?_
  refine g_iconst C d_Pn_restBy_16 ?_
  refine g_iload_n C d_Pn_restBy_17 2 rfl ?_
  refine g_ishl C ((2 ^ ((k : Int)).toNat : Nat) : Int) (shl_i (by omega)) d_Pn_restBy_18 ?_
  rw [ek]
  refine g_isub C d_Pn_restBy_19 ?_
  refine g_bipush C d_Pn_restBy_20 (by decide) ?_
  refine g_imul C d_Pn_restBy_22 ?_
  refine g_iload_n C d_Pn_restBy_23 2 rfl ?_
  refine g_iadd C d_Pn_restBy_24 ?_
  refine g_iald C 0 hT0 hra (by omega) d_Pn_restBy_25 ?_
  refine g_iadd C d_Pn_restBy_26 ?_
  exact g_iretP C hr d_Pn_restBy_27 (by rw [show ((v : Int) * 8 + (k : Int)).toNat = v * 8 + k by omega, show (((S : Int) - ((2 ^ k : Nat) : Int)) * 8 + (k : Int)).toNat = (S - 2 ^ k) * 8 + k by omega])
set_option maxHeartbeats 4000000 in
set_option maxRecDepth 100000 in
theorem ct_Pn_leastRest (l : Launch) (D : va_G) (tys : xK) (A : Nat → Prop) (M : Wm) (hT : tyOK tys) (a ca ga ra n : Nat) (L T : Nat → Int) (hn : n ≤ 7) (hL : inB L) (hTb : inB T) (v S : Nat) (hv : v ≤ 7) (hS : S < 128) (hpn : M a = some (.inr (5, [.ref ca, .ref ga, .ref ra, .int (iI ((n : Int)))]))) (hga : M ga = some (aI tys 64 L)) (hra : M ra = some (aI tys 1024 T)) : pT l y_Pn_leastRest b_Pn_leastRest 5 (some .int) { frames := 1, cells := 0, slots := 0, locals := 23 } D tys A [.ref a, .int (iI ((v : Int))), .int (iI ((S : Int)))] M (qP (fun z => z = sRst L T n S v)) := by
  refine met_of (own := R_Pn) (lv := [(0, .ref a), (1, .int (iI ((v : Int)))), (2, .int (iI ((S : Int))))]) rfl (by decide) (Nat.le_of_ble_eq_true rfl) rfl ?_
  intro p_ e_ s_ m_ bl_ me_ c_ C hr hin
  have hT9 := hT
  obtain ⟨hT0, -⟩ := hT
  refine g_iload_n C d_Pn_leastRest_0 2 rfl ?_
  refine g_if_ne C 17 d_Pn_leastRest_1 rfl (by omega) (fun c1 => ?_) (fun c1 => ?_)
  · refine g_ldc C 1000000 q_Pn_42 d_Pn_leastRest_17 ?_
    refine g_istore_n (lv' := [(3, .int (iI 1000000)), (0, .ref a), (1, .int (iI ((v : Int)))), (2, .int (iI ((S : Int))))]) C d_Pn_leastRest_19 (by decide) rfl ?_
    refine g_iconst C d_Pn_leastRest_20 ?_
    refine g_istore (lv' := [(4, .int (iI 0)), (3, .int (iI 1000000)), (0, .ref a), (1, .int (iI ((v : Int)))), (2, .int (iI ((S : Int))))]) C d_Pn_leastRest_21 (by decide) rfl ?_
    refine g_sub [2, 3, 4, 1, 0] rfl (g_loop (σ := Nat) (fun x => n - x) (fun x => (x ≤ n)) (fun x => [(0, .ref a), (1, .int (iI ((v : Int)))), (2, .int (iI ((S : Int)))), (3, .int (iI (sLst L T S v x))), (4, .int (iI ((x : Int))))]) (fun x => M) ?_ (0) (Nat.zero_le _))
    intro x_ hI ih23
    obtain ⟨k, rfl⟩ : ∃ z, z = x_ := ⟨_, rfl⟩
    try dsimp only at hI ih23 ⊢
    obtain hk0 := hI
    have hsb := sLst_b (S := S) (v := v) (k := k) hL hTb
    refine g_iload C d_Pn_leastRest_23 4 rfl ?_
    refine g_aload_n C d_Pn_leastRest_25 0 rfl ?_
    refine g_get C f_Pn_24 hpn rfl d_Pn_leastRest_26 ?_
    refine g_icmp_ge C 60 d_Pn_leastRest_29 rfl (by omega) (fun c2 => ?_) (fun c2 => ?_)
    · refine g_iload_n C d_Pn_leastRest_60 3 rfl ?_
      exact g_iretP C hr d_Pn_leastRest_61 (by unfold sRst; rw [if_neg (by omega), show k = n by omega])
    · refine g_iload C d_Pn_leastRest_32 4 rfl ?_
      refine g_iload_n C d_Pn_leastRest_34 2 rfl ?_
      refine g_calliP C (run_S C [.int (iI ((k : Int))), .int (iI ((S : Int)))] k_Pn_43 (ct_Pn_isIn l D tys A M k S (by omega) (by omega)) ⟨rfl, rfl, Nat.le_of_ble_eq_true rfl, Nat.le_of_ble_eq_true rfl⟩ rfl rfl (Nat.le_of_ble_eq_true rfl) d_Pn_leastRest_35 ⟨Nat.le_of_ble_eq_true rfl, Nat.le_of_ble_eq_true rfl⟩) (fun z3 hz3 => ?_)
      refine g_if_eq C 54 d_Pn_leastRest_38 rfl (by omega) (fun c4 => ?_) (fun c4 => ?_)
      · refine g_iinc (lv' := [(4, .int (iI (((k : Int)) + 1))), (0, .ref a), (1, .int (iI ((v : Int)))), (2, .int (iI ((S : Int)))), (3, .int (iI (sLst L T S v k)))]) C d_Pn_leastRest_54 4 rfl (by decide) rfl ?_
        refine g_goto C 23 d_Pn_leastRest_57 rfl ?_
        have hE : sLst L T S v (k + 1) = sLst L T S v k := by
          rw [sLst.eq_2, if_neg (by omega)]
        rw [← hE]
        exact g_sub [1, 2, 3, 4, 0] rfl (ih23 (k + 1) (by omega) (by first | omega | (dsimp only; omega)))
      · refine g_iload_n C d_Pn_leastRest_41 3 rfl ?_
        refine g_aload_n C d_Pn_leastRest_42 0 rfl ?_
        refine g_iload_n C d_Pn_leastRest_43 1 rfl ?_
        refine g_iload C d_Pn_leastRest_44 4 rfl ?_
        refine g_iload_n C d_Pn_leastRest_46 2 rfl ?_
        refine g_calliP C (run_V C [.int (iI ((v : Int))), .int (iI ((k : Int))), .int (iI ((S : Int)))] k_Pn_51 (ct_Pn_restBy l D tys A M hT9 a ca ga ra n L T hn hL hTb v k S (by omega) (by omega) (by omega) (by omega) hpn hga hra) hpn ⟨rfl, rfl, Nat.le_of_ble_eq_true rfl, Nat.le_of_ble_eq_true rfl⟩ rfl rfl (Nat.le_of_ble_eq_true rfl) d_Pn_leastRest_47 ⟨Nat.le_of_ble_eq_true rfl, Nat.le_of_ble_eq_true rfl⟩) (fun z5 hz5 => ?_)
        have hb1z5 := hL (v * 8 + k)
        have hb2z5 := hTb ((S - 2 ^ k) * 8 + k)
        refine g_mmin C k_Pn_55 (by omega) ⟨Nat.le_of_ble_eq_true rfl, Nat.le_of_ble_eq_true rfl, Nat.le_of_ble_eq_true rfl, Nat.le_of_ble_eq_true rfl⟩ d_Pn_leastRest_50 ?_
        obtain ⟨z6, ez6⟩ : ∃ z : Int, z = if z5 < sLst L T S v k then z5 else sLst L T S v k := ⟨_, rfl⟩
        rw [← ez6]
        have hz6 : (z5 < sLst L T S v k ∧ z6 = z5) ∨ (¬ z5 < sLst L T S v k ∧ z6 = sLst L T S v k) := by rw [ez6]; split <;> omega
        refine g_istore_n (lv' := [(3, .int (iI z6)), (0, .ref a), (1, .int (iI ((v : Int)))), (2, .int (iI ((S : Int)))), (4, .int (iI ((k : Int))))]) C d_Pn_leastRest_53 (by decide) rfl ?_
        refine g_iinc (lv' := [(4, .int (iI (((k : Int)) + 1))), (3, .int (iI z6)), (0, .ref a), (1, .int (iI ((v : Int)))), (2, .int (iI ((S : Int))))]) C d_Pn_leastRest_54 4 rfl (by decide) rfl ?_
        refine g_goto C 23 d_Pn_leastRest_57 rfl ?_
        have hE : z6 = sLst L T S v (k + 1) := by
          rw [sLst.eq_2]
          split <;> omega
        rw [hE]
        exact g_sub [2, 3, 4, 1, 0] rfl (ih23 (k + 1) (by omega) (by first | omega | (dsimp only; omega)))
  · refine g_aload_n C d_Pn_leastRest_4 0 rfl ?_
    refine g_get C f_Pn_17 hpn rfl d_Pn_leastRest_5 ?_
    refine g_iload_n C d_Pn_leastRest_8 1 rfl ?_
    refine g_bipush C d_Pn_leastRest_9 (by decide) ?_
    refine g_imul C d_Pn_leastRest_11 ?_
    refine g_bipush C d_Pn_leastRest_12 (by decide) ?_
    refine g_iadd C d_Pn_leastRest_14 ?_
    refine g_iald C 0 hT0 hga (by omega) d_Pn_leastRest_15 ?_
    exact g_iretP C hr d_Pn_leastRest_16 (by unfold sRst; rw [if_pos (by omega), show ((v : Int) * 8 + 7).toNat = v * 8 + 7 by omega])
set_option maxHeartbeats 4000000 in
set_option maxRecDepth 100000 in
theorem ct_Pn_leastWalks (l : Launch) (D : va_G) (tys : xK) (A : Nat → Prop) (M : Wm) (hT : tyOK tys) (a ca ga ra n : Nat) (L T : Nat → Int) (hn : n ≤ 7) (hL : inB L) (hTb : inB T) (k : Nat) (hk : k ≤ 7) (hpn : M a = some (.inr (5, [.ref ca, .ref ga, .ref ra, .int (iI ((n : Int)))]))) (hga : M ga = some (aI tys 64 L)) (hra : M ra = some (aI tys 1024 T)) : pT l y_Pn_leastWalks b_Pn_leastWalks 2 (some .int) { frames := 1, cells := 0, slots := 0, locals := 20 } D tys A [.ref a, .int (iI ((k : Int)))] M (qP (fun z => z = T ((2 ^ k - 1) * 8 + 7))) := by
  refine met_of (own := R_Pn) (lv := [(0, .ref a), (1, .int (iI ((k : Int))))]) rfl (by decide) (Nat.le_of_ble_eq_true rfl) rfl ?_
  intro p_ e_ s_ m_ bl_ me_ c_ C hr hin
  have hT9 := hT
  obtain ⟨hT0, -⟩ := hT
  have hpw := pw_b (k := k) (by omega)
  refine g_aload_n C d_Pn_leastWalks_0 0 rfl ?_
  refine g_get C f_Pn_21 hpn rfl d_Pn_leastWalks_1 ?_
  refine g_iload_n C d_Pn_leastWalks_4 1 rfl ?_
  refine g_calliP C (run_S C [.int (iI ((k : Int)))] k_Pn_60 (ct_Pn_firstOnes l D tys A M k (by omega)) ⟨rfl, rfl, Nat.le_of_ble_eq_true rfl, Nat.le_of_ble_eq_true rfl⟩ rfl rfl (Nat.le_of_ble_eq_true rfl) d_Pn_leastWalks_5 ⟨Nat.le_of_ble_eq_true rfl, Nat.le_of_ble_eq_true rfl⟩) (fun z1 hz1 => ?_)
  refine g_bipush C d_Pn_leastWalks_8 (by decide) ?_
  refine g_imul C d_Pn_leastWalks_10 ?_
  refine g_bipush C d_Pn_leastWalks_11 (by decide) ?_
  refine g_iadd C d_Pn_leastWalks_13 ?_
  refine g_iald C 0 hT0 hra (by omega) d_Pn_leastWalks_14 ?_
  exact g_iretP C hr d_Pn_leastWalks_15 (by rw [hz1, show (((2 ^ k : Nat) : Int) - 1) * 8 + 7 = (((2 ^ k - 1) * 8 + 7 : Nat) : Int) by omega]; rfl)
