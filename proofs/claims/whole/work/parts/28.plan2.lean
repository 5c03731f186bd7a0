/-! THE PLANNER, its writers: written by program (wip/whole/gen/plan2.py) -/
set_option maxHeartbeats 4000000 in
set_option maxRecDepth 100000 in
theorem ct_Pn_measure (l : Launch) (D : va_G) (tys : xK) (A : Nat → Prop) (M : Wm) (hT : tyOK tys) (a ca ga ra n : Nat) (L : Nat → Int) (gc : Nat → Option Nat) (hn : n ≤ 7) (hL : inB L) (hpn : M a = some (.inr (5, [.ref ca, .ref ga, .ref ra, .int (iI ((n : Int)))]))) (hca : M ca = some (aR tys 4 7 gc)) (hga : M ga = some (aI tys 64 L)) (h nl : Nat) (lf : Nat → Nat → Int) (hH : HoA tys M h nl lf) (hm : Nat) (ph : Nat → Int) (hph : okP ph) (hhm : M hm = some (oPl ph)) (pc : Nat → Nat → Int) (hel : ∀ k, k < n → okP (pc k) ∧ ∃ b nb pa t, gc k = some b ∧ M b = some (oPt nb pa t) ∧ M pa = some (oPl (pc k))) : mT l y_Pn_measure b_Pn_measure 6 none { frames := 5, cells := 0, slots := 0, locals := 114 } D tys A [.ref a, .ref h, .ref hm] M (qV D A (fun M' => ∃ G : Nat → Int, Ms n n (fun k_ => sLeg (sWay nl lf ph (pc k_))) (fun k_ j_ => sLeg (sWay nl lf (pc k_) (pc j_))) L G ∧ M' = va_up M ga (some (aI tys 64 G)))) 0 0 := by
  refine met_of (own := R_Pn) (lv := [(0, .ref a), (1, .ref h), (2, .ref hm)]) rfl (by decide) (Nat.le_of_ble_eq_true rfl) rfl ?_
  intro p_ e_ s_ m_ bl_ me_ c_ C hr hin
  have hT9 := hT
  obtain ⟨hT0, -, -, -, hT4, -⟩ := hT
  have hlok := hH.2.1
  obtain ⟨-, -, pa9, la9, np9, gl9, hh9, -⟩ := id hH
  refine g_iconst C d_Pn_measure_0 ?_
  refine g_istore_n (lv' := [(3, .int (iI 0)), (0, .ref a), (1, .ref h), (2, .ref hm)]) C d_Pn_measure_1 (by decide) rfl ?_
  refine g_world (up_same hga).symm ?_
  refine g_toX ?_
  refine g_sub [1, 2, 3, 0] rfl (g_loop (σ := Nat × (Nat → Int)) (fun x => n - x.1) (fun x => (x.1 ≤ n) ∧ (Ms n x.1 (fun k_ => sLeg (sWay nl lf ph (pc k_))) (fun k_ j_ => sLeg (sWay nl lf (pc k_) (pc j_))) L x.2)) (fun x => [(0, .ref a), (1, .ref h), (2, .ref hm), (3, .int (iI ((x.1 : Int))))]) (fun x => (va_up M ga (some (.inl (tc tys 0, 64, .inl (fun j_ => iI (x.2 j_))))))) ?_ (0, L) (⟨Nat.zero_le _, Ms_0 hL⟩))
  intro x_ hI ih2
  obtain ⟨i, G⟩ := x_
  try dsimp only at hI ih2 ⊢
  obtain ⟨hi0, hMs⟩ := hI
  refine g_iload_n C d_Pn_measure_2 3 rfl ?_
  refine g_aload_n C d_Pn_measure_3 0 rfl ?_
  refine g_get C f_Pn_24 ((wd_up_n (ne_oa hpn hga)).trans hpn) rfl d_Pn_measure_4 ?_
  refine g_icmp_ge C 110 d_Pn_measure_7 rfl (by omega) (fun c1 => ?_) (fun c1 => ?_)
  · have eI : i = n := by omega
    exact g_vret C hr d_Pn_measure_110 ⟨G, eI ▸ hMs, rfl⟩
  · obtain ⟨hpk1, b1, n1, pa1, t1, hs1, hb1, hpa1⟩ := hel i (by omega)
    refine g_aload_n C d_Pn_measure_10 1 rfl ?_
    refine g_aload_n C d_Pn_measure_11 2 rfl ?_
    refine g_aload_n C d_Pn_measure_12 0 rfl ?_
    refine g_get C f_Pn_13 ((wd_up_n (ne_oa hpn hga)).trans hpn) rfl d_Pn_measure_13 ?_
    refine g_iload_n C d_Pn_measure_16 3 rfl ?_
    refine g_aald C 4 hT4 ((wd_up_n (Ne.symm (ne_ia hga hca))).trans hca) (by omega) (by rw [show (i : Int).toNat = i by omega]; exact hs1) d_Pn_measure_17 ?_
    refine g_get C f_Pn_28 ((wd_up_n (ne_oa hb1 hga)).trans hb1) rfl d_Pn_measure_18 ?_
    refine g_calliP C (run_S C [.ref h, .ref hm, .ref pa1] k_Pn_32 (ct_Pn_legOf l D tys A (va_up M ga (some (.inl (tc tys 0, 64, .inl (fun j_ => iI (G j_)))))) hT9 h hm pa1 nl lf ph (pc i) hph hpk1 (HoA_up hH hga trivial) ((wd_up_n (ne_oa hhm hga)).trans hhm) ((wd_up_n (ne_oa hpa1 hga)).trans hpa1)) ⟨rfl, rfl, Nat.le_of_ble_eq_true rfl, Nat.le_of_ble_eq_true rfl⟩ rfl rfl (Nat.le_of_ble_eq_true rfl) d_Pn_measure_21 ⟨Nat.le_of_ble_eq_true rfl, Nat.le_of_ble_eq_true rfl⟩) (fun z2 hz2 => ?_)
    have hbz2 := sWay_b (nl := nl) hlok hph hpk1
    have hcz2 := sLeg_or (sWay nl lf ph (pc i))
    refine g_istore (lv' := [(4, .int (iI z2)), (0, .ref a), (1, .ref h), (2, .ref hm), (3, .int (iI ((i : Int))))]) C d_Pn_measure_24 (by decide) rfl ?_
    refine g_aload_n C d_Pn_measure_26 1 rfl ?_
    refine g_get C f_Pn_17 ((wd_up_n (ne_oa hpn hga)).trans hpn) rfl d_Pn_measure_27 ?_
    refine g_bipush C d_Pn_measure_30 (by decide) ?_
    refine g_iload_n C d_Pn_measure_32 4 rfl ?_
    refine g_iadd C d_Pn_measure_33 ?_
    refine g_iload C d_Pn_measure_34 0 rfl ?_
    refine g_iast C 0 hT0 wd_up_s (by omega) d_Pn_measure_36 ?_
    refine g_world (bx_uu _ _ _ _) ?_
    refine g_aload_n C d_Pn_measure_37 1 rfl ?_
    refine g_get C f_Pn_17 ((wd_up_n (ne_oa hpn hga)).trans hpn) rfl d_Pn_measure_38 ?_
    refine g_iload_n C d_Pn_measure_41 4 rfl ?_
    refine g_bipush C d_Pn_measure_42 (by decide) ?_
    refine g_imul C d_Pn_measure_44 ?_
    refine g_bipush C d_Pn_measure_45 (by decide) ?_
    refine g_iadd C d_Pn_measure_47 ?_
    refine g_iload C d_Pn_measure_48 0 rfl ?_
    refine g_iast C 0 hT0 wd_up_s (by omega) d_Pn_measure_50 ?_
    refine g_world (bx_uu _ _ _ _) ?_
    refine g_iconst C d_Pn_measure_51 ?_
    refine g_istore (lv' := [(5, .int (iI 0)), (4, .int (iI z2)), (0, .ref a), (1, .ref h), (2, .ref hm), (3, .int (iI ((i : Int))))]) C d_Pn_measure_52 (by decide) rfl ?_
    obtain ⟨G1, eG1⟩ : ∃ z : Nat → Int, z = va_up (va_up G (56 + ((i : Int))).toNat z2) ((((i : Int)) * 8) + 7).toNat z2 := ⟨_, rfl⟩
    rw [← eG1]
    have hMi0 : Mi n i 0 (fun k_ => sLeg (sWay nl lf ph (pc k_))) (fun k_ j_ => sLeg (sWay nl lf (pc k_) (pc j_))) L G1 := by
      rw [eG1, show ((56 : Int) + (i : Int)).toNat = 56 + i by omega, show ((i : Int) * 8 + 7).toNat = i * 8 + 7 by omega, hz2]
      exact Mi_0 (by omega) hMs (by first | omega | (dsimp only; omega))
    refine g_sub [2, 3, 4, 5, 0] rfl (g_loop (σ := Nat × (Nat → Int)) (fun x => n - x.1) (fun x => (x.1 ≤ n) ∧ (Mi n i x.1 (fun k_ => sLeg (sWay nl lf ph (pc k_))) (fun k_ j_ => sLeg (sWay nl lf (pc k_) (pc j_))) L x.2)) (fun x => [(0, .ref a), (1, .ref h), (2, .ref hm), (3, .int (iI ((i : Int)))), (5, .int (iI ((x.1 : Int))))]) (fun x => (va_up M ga (some (.inl (tc tys 0, 64, .inl (fun j_ => iI (x.2 j_))))))) ?_ (0, G1) (⟨Nat.zero_le _, hMi0⟩))
    intro x_ hI ih54
    obtain ⟨j, G⟩ := x_
    try dsimp only at hI ih54 ⊢
    obtain ⟨hj0, hMi⟩ := hI
    refine g_iload C d_Pn_measure_54 4 rfl ?_
    refine g_aload_n C d_Pn_measure_56 0 rfl ?_
    refine g_get C f_Pn_24 ((wd_up_n (ne_oa hpn hga)).trans hpn) rfl d_Pn_measure_57 ?_
    refine g_icmp_ge C 104 d_Pn_measure_60 rfl (by omega) (fun c3 => ?_) (fun c3 => ?_)
    · refine g_iinc (lv' := [(3, .int (iI (((i : Int)) + 1))), (0, .ref a), (1, .ref h), (2, .ref hm), (5, .int (iI ((j : Int))))]) C d_Pn_measure_104 3 rfl (by decide) rfl ?_
      refine g_goto C 2 d_Pn_measure_107 rfl ?_
      have eJ : j = n := by omega
      rw [eJ] at hMi
      exact g_sub [1, 2, 3, 0] rfl (ih2 (i + 1, G) ⟨by omega, Ms_s hMi⟩ (by first | omega | (dsimp only; omega)))
    · obtain ⟨hpk2, b2, n2, pa2, t2, hs2, hb2, hpa2⟩ := hel j (by omega)
      refine g_aload_n C d_Pn_measure_63 0 rfl ?_
      refine g_get C f_Pn_17 ((wd_up_n (ne_oa hpn hga)).trans hpn) rfl d_Pn_measure_64 ?_
      refine g_iload_n C d_Pn_measure_67 3 rfl ?_
      refine g_bipush C d_Pn_measure_68 (by decide) ?_
      refine g_imul C d_Pn_measure_70 ?_
      refine g_iload C d_Pn_measure_71 4 rfl ?_
      refine g_iadd C d_Pn_measure_73 ?_
      refine g_aload_n C d_Pn_measure_74 1 rfl ?_
      refine g_aload_n C d_Pn_measure_75 0 rfl ?_
      refine g_get C f_Pn_13 ((wd_up_n (ne_oa hpn hga)).trans hpn) rfl d_Pn_measure_76 ?_
      refine g_iload_n C d_Pn_measure_79 3 rfl ?_
      refine g_aald C 4 hT4 ((wd_up_n (Ne.symm (ne_ia hga hca))).trans hca) (by omega) (by rw [show (i : Int).toNat = i by omega]; exact hs1) d_Pn_measure_80 ?_
      refine g_get C f_Pn_28 ((wd_up_n (ne_oa hb1 hga)).trans hb1) rfl d_Pn_measure_81 ?_
      refine g_aload_n C d_Pn_measure_84 0 rfl ?_
      refine g_get C f_Pn_13 ((wd_up_n (ne_oa hpn hga)).trans hpn) rfl d_Pn_measure_85 ?_
      refine g_iload C d_Pn_measure_88 4 rfl ?_
      refine g_aald C 4 hT4 ((wd_up_n (Ne.symm (ne_ia hga hca))).trans hca) (by omega) (by rw [show (j : Int).toNat = j by omega]; exact hs2) d_Pn_measure_90 ?_
      refine g_get C f_Pn_28 ((wd_up_n (ne_oa hb2 hga)).trans hb2) rfl d_Pn_measure_91 ?_
      refine g_calliP C (run_S C [.ref h, .ref pa1, .ref pa2] k_Pn_32 (ct_Pn_legOf l D tys A (va_up M ga (some (.inl (tc tys 0, 64, .inl (fun j_ => iI (G j_)))))) hT9 h pa1 pa2 nl lf (pc i) (pc j) hpk1 hpk2 (HoA_up hH hga trivial) ((wd_up_n (ne_oa hpa1 hga)).trans hpa1) ((wd_up_n (ne_oa hpa2 hga)).trans hpa2)) ⟨rfl, rfl, Nat.le_of_ble_eq_true rfl, Nat.le_of_ble_eq_true rfl⟩ rfl rfl (Nat.le_of_ble_eq_true rfl) d_Pn_measure_94 ⟨Nat.le_of_ble_eq_true rfl, Nat.le_of_ble_eq_true rfl⟩) (fun z4 hz4 => ?_)
      have hbz4 := sWay_b (nl := nl) hlok hpk1 hpk2
      have hcz4 := sLeg_or (sWay nl lf (pc i) (pc j))
      refine g_iast C 0 hT0 wd_up_s (by omega) d_Pn_measure_97 ?_
      refine g_world (bx_uu _ _ _ _) ?_
      refine g_iinc (lv' := [(5, .int (iI (((j : Int)) + 1))), (0, .ref a), (1, .ref h), (2, .ref hm), (3, .int (iI ((i : Int))))]) C d_Pn_measure_98 4 rfl (by decide) rfl ?_
      refine g_goto C 54 d_Pn_measure_101 rfl ?_
      obtain ⟨G2, eG2⟩ : ∃ z : Nat → Int, z = va_up G ((((i : Int)) * 8) + ((j : Int))).toNat z4 := ⟨_, rfl⟩
      rw [← eG2]
      exact g_sub [1, 2, 3, 4, 0] rfl (ih54 (j + 1, G2) ⟨by omega, (by rw [eG2, show ((i : Int) * 8 + (j : Int)).toNat = i * 8 + j by omega, hz4]; exact Mi_s (by omega) hMi (by first | omega | (dsimp only; omega)))⟩ (by first | omega | (dsimp only; omega)))
set_option maxHeartbeats 4000000 in
set_option maxRecDepth 100000 in
theorem ct_Pn_plan (l : Launch) (D : va_G) (tys : xK) (A : Nat → Prop) (M : Wm) (hT : tyOK tys) (a ca ga ra n : Nat) (L T : Nat → Int) (hn : n ≤ 7) (hL : inB L) (hTb : inB T) (hpn : M a = some (.inr (5, [.ref ca, .ref ga, .ref ra, .int (iI ((n : Int)))]))) (hga : M ga = some (aI tys 64 L)) (hra : M ra = some (aI tys 1024 T)) (hgr : ga ≠ ra) : mT l y_Pn_plan b_Pn_plan 3 none { frames := 2, cells := 0, slots := 0, locals := 47 } D tys A [.ref a] M (qV D A (fun M' => ∃ T2 : Nat → Int, inB T2 ∧ isT L T2 n (2 ^ n) ∧ M' = va_up M ra (some (aI tys 1024 T2)))) 0 0 := by
  refine met_of (own := R_Pn) (lv := [(0, .ref a)]) rfl (by decide) (Nat.le_of_ble_eq_true rfl) rfl ?_
  intro p_ e_ s_ m_ bl_ me_ c_ C hr hin
  have hT9 := hT
  obtain ⟨hT0, -⟩ := hT
  have hpn2 := pw_b (k := n) hn
  have en : (n : Int).toNat = n := by omega
  refine g_iconst C d_Pn_plan_0 ?_
  refine g_istore_n (lv' := [(1, .int (iI 0)), (0, .ref a)]) C d_Pn_plan_1 (by decide) rfl ?_
  refine g_world (up_same hra).symm ?_
  refine g_toX ?_
  refine g_sub [1, 0] rfl (g_loop (σ := Nat × (Nat → Int)) (fun x => 2 ^ n - x.1) (fun x => (x.1 ≤ 2 ^ n) ∧ (inB x.2) ∧ (isT L x.2 n x.1)) (fun x => [(0, .ref a), (1, .int (iI ((x.1 : Int))))]) (fun x => (va_up M ra (some (.inl (tc tys 0, 1024, .inl (fun j_ => iI (x.2 j_))))))) ?_ (0, T) (⟨Nat.zero_le _, hTb, (fun S hS => absurd hS (Nat.not_lt_zero S))⟩))
  intro x_ hI ih2
  obtain ⟨b, Tq⟩ := x_
  try dsimp only at hI ih2 ⊢
  obtain ⟨hb0, hTb, hIs⟩ := hI
  refine g_iload_n C d_Pn_plan_2 1 rfl ?_
  refine g_iconst C d_Pn_plan_3 ?_
  refine g_aload_n C d_Pn_plan_4 0 rfl ?_
  refine g_get C f_Pn_24 ((wd_up_n (ne_oa hpn hra)).trans hpn) rfl d_Pn_plan_5 ?_
  refine g_ishl C ((2 ^ ((n : Int)).toNat : Nat) : Int) (shl_i (by omega)) d_Pn_plan_8 ?_
  rw [en]
  refine g_icmp_ge C 78 d_Pn_plan_9 rfl (by omega) (fun c1 => ?_) (fun c1 => ?_)
  · exact g_vret C hr d_Pn_plan_78 ⟨Tq, hTb, (show b = 2 ^ n by omega) ▸ hIs, rfl⟩
  · refine g_iconst C d_Pn_plan_12 ?_
    refine g_istore_n (lv' := [(2, .int (iI 0)), (0, .ref a), (1, .int (iI ((b : Int))))]) C d_Pn_plan_13 (by decide) rfl ?_
    refine g_sub [1, 2, 0] rfl (g_loop (σ := Nat × (Nat → Int)) (fun x => n - x.1) (fun x => (x.1 ≤ n) ∧ (inB x.2) ∧ (isR L x.2 n b x.1)) (fun x => [(0, .ref a), (1, .int (iI ((b : Int)))), (2, .int (iI ((x.1 : Int))))]) (fun x => (va_up M ra (some (.inl (tc tys 0, 1024, .inl (fun j_ => iI (x.2 j_))))))) ?_ (0, Tq) (⟨Nat.zero_le _, hTb, ⟨hIs, fun v hv => absurd hv (Nat.not_lt_zero v)⟩⟩))
    intro x_ hI ih14
    obtain ⟨j, Tq⟩ := x_
    try dsimp only at hI ih14 ⊢
    obtain ⟨hj0, hTb, hR⟩ := hI
    refine g_iload_n C d_Pn_plan_14 2 rfl ?_
    refine g_aload_n C d_Pn_plan_15 0 rfl ?_
    refine g_get C f_Pn_24 ((wd_up_n (ne_oa hpn hra)).trans hpn) rfl d_Pn_plan_16 ?_
    refine g_icmp_ge C 53 d_Pn_plan_19 rfl (by omega) (fun c2 => ?_) (fun c2 => ?_)
    · refine g_aload_n C d_Pn_plan_53 0 rfl ?_
      refine g_get C f_Pn_21 ((wd_up_n (ne_oa hpn hra)).trans hpn) rfl d_Pn_plan_54 ?_
      refine g_iload_n C d_Pn_plan_57 1 rfl ?_
      refine g_bipush C d_Pn_plan_58 (by decide) ?_
      refine g_imul C d_Pn_plan_60 ?_
      refine g_bipush C d_Pn_plan_61 (by decide) ?_
      refine g_iadd C d_Pn_plan_63 ?_
      refine g_aload_n C d_Pn_plan_64 0 rfl ?_
      refine g_bipush C d_Pn_plan_65 (by decide) ?_
      refine g_iload_n C d_Pn_plan_67 1 rfl ?_
      refine g_calliP C (run_V C [.int (iI 7), .int (iI ((b : Int)))] k_Pn_47 (ct_Pn_leastRest l D tys A (va_up M ra (some (.inl (tc tys 0, 1024, .inl (fun j_ => iI (Tq j_)))))) hT9 a ca ga ra n L Tq hn hL hTb 7 b (by omega) (by omega) ((wd_up_n (ne_oa hpn hra)).trans hpn) ((wd_up_n hgr).trans hga) wd_up_s) ((wd_up_n (ne_oa hpn hra)).trans hpn) ⟨rfl, rfl, Nat.le_of_ble_eq_true rfl, Nat.le_of_ble_eq_true rfl⟩ rfl rfl (Nat.le_of_ble_eq_true rfl) d_Pn_plan_68 ⟨Nat.le_of_ble_eq_true rfl, Nat.le_of_ble_eq_true rfl⟩) (fun z3 hz3 => ?_)
      have hrbz3 := sRst_b (n := n) (S := b) (v := 7) hL hTb
      refine g_iast C 0 hT0 wd_up_s (by omega) d_Pn_plan_71 ?_
      refine g_world (bx_uu _ _ _ _) ?_
      refine g_iinc (lv' := [(1, .int (iI (((b : Int)) + 1))), (0, .ref a), (2, .int (iI ((j : Int))))]) C d_Pn_plan_72 1 rfl (by decide) rfl ?_
      refine g_goto C 2 d_Pn_plan_75 rfl ?_
      obtain ⟨T2, eT2⟩ : ∃ z : Nat → Int, z = va_up Tq ((((b : Int)) * 8) + 7).toNat z3 := ⟨_, rfl⟩
      rw [← eT2]
      have eJ : j = n := by omega
      rw [eJ] at hR
      exact g_sub [1, 0] rfl (ih2 (b + 1, T2) ⟨by omega, (by rw [eT2]; exact inB_up hTb (by omega)), (by rw [eT2, show ((b : Int) * 8 + 7).toNat = b * 8 + 7 by omega, hz3]; exact isT_s hn (by omega) hR)⟩ (by first | omega | (dsimp only; omega)))
    · refine g_iload_n C d_Pn_plan_22 2 rfl ?_
      refine g_iload_n C d_Pn_plan_23 1 rfl ?_
      refine g_calliP C (run_S C [.int (iI ((j : Int))), .int (iI ((b : Int)))] k_Pn_43 (ct_Pn_isIn l D tys A (va_up M ra (some (.inl (tc tys 0, 1024, .inl (fun j_ => iI (Tq j_)))))) j b (by omega) (by omega)) ⟨rfl, rfl, Nat.le_of_ble_eq_true rfl, Nat.le_of_ble_eq_true rfl⟩ rfl rfl (Nat.le_of_ble_eq_true rfl) d_Pn_plan_24 ⟨Nat.le_of_ble_eq_true rfl, Nat.le_of_ble_eq_true rfl⟩) (fun z4 hz4 => ?_)
      refine g_if_ne C 47 d_Pn_plan_27 rfl (by omega) (fun c5 => ?_) (fun c5 => ?_)
      · refine g_iinc (lv' := [(2, .int (iI (((j : Int)) + 1))), (0, .ref a), (1, .int (iI ((b : Int))))]) C d_Pn_plan_47 2 rfl (by decide) rfl ?_
        refine g_goto C 14 d_Pn_plan_50 rfl ?_
        exact g_sub [1, 2, 0] rfl (ih14 (j + 1, Tq) ⟨by omega, hTb, isR_n (by omega) hR⟩ (by first | omega | (dsimp only; omega)))
      · refine g_aload_n C d_Pn_plan_30 0 rfl ?_
        refine g_get C f_Pn_21 ((wd_up_n (ne_oa hpn hra)).trans hpn) rfl d_Pn_plan_31 ?_
        refine g_iload_n C d_Pn_plan_34 1 rfl ?_
        refine g_bipush C d_Pn_plan_35 (by decide) ?_
        refine g_imul C d_Pn_plan_37 ?_
        refine g_iload_n C d_Pn_plan_38 2 rfl ?_
        refine g_iadd C d_Pn_plan_39 ?_
        refine g_aload_n C d_Pn_plan_40 0 rfl ?_
        refine g_iload_n C d_Pn_plan_41 2 rfl ?_
        refine g_iload_n C d_Pn_plan_42 1 rfl ?_
        refine g_calliP C (run_V C [.int (iI ((j : Int))), .int (iI ((b : Int)))] k_Pn_47 (ct_Pn_leastRest l D tys A (va_up M ra (some (.inl (tc tys 0, 1024, .inl (fun j_ => iI (Tq j_)))))) hT9 a ca ga ra n L Tq hn hL hTb j b (by omega) (by omega) ((wd_up_n (ne_oa hpn hra)).trans hpn) ((wd_up_n hgr).trans hga) wd_up_s) ((wd_up_n (ne_oa hpn hra)).trans hpn) ⟨rfl, rfl, Nat.le_of_ble_eq_true rfl, Nat.le_of_ble_eq_true rfl⟩ rfl rfl (Nat.le_of_ble_eq_true rfl) d_Pn_plan_43 ⟨Nat.le_of_ble_eq_true rfl, Nat.le_of_ble_eq_true rfl⟩) (fun z6 hz6 => ?_)
        have hrbz6 := sRst_b (n := n) (S := b) (v := j) hL hTb
        refine g_iast C 0 hT0 wd_up_s (by omega) d_Pn_plan_46 ?_
        refine g_world (bx_uu _ _ _ _) ?_
        refine g_iinc (lv' := [(2, .int (iI (((j : Int)) + 1))), (0, .ref a), (1, .int (iI ((b : Int))))]) C d_Pn_plan_47 2 rfl (by decide) rfl ?_
        refine g_goto C 14 d_Pn_plan_50 rfl ?_
        obtain ⟨T2, eT2⟩ : ∃ z : Nat → Int, z = va_up Tq ((((b : Int)) * 8) + ((j : Int))).toNat z6 := ⟨_, rfl⟩
        rw [← eT2]
        exact g_sub [1, 2, 0] rfl (ih14 (j + 1, T2) ⟨by omega, (by rw [eT2]; exact inB_up hTb (by omega)), (by rw [eT2, show ((b : Int) * 8 + (j : Int)).toNat = b * 8 + j by omega, hz6]; exact isR_s hn (by omega) (by omega) hR)⟩ (by first | omega | (dsimp only; omega)))
