/-! THE FACE, on: written by program (wip/whole/gen/face2.py) -/
set_option maxHeartbeats 4000000 in
set_option maxRecDepth 100000 in
theorem ct_Ct_fine (l : Launch) (hl0 : l.stackTraces = false) (D : va_G) (tys : xK) (A : Nat → Prop) (M : Wm) (hT : tyOK tys) (x : Nat) (s : AS) (z1_ z2_ : Int) (hz1 : (-2147483648 ≤ z1_ ∧ z1_ < 2147483648)) (hz2 : (-2147483648 ≤ z2_ ∧ z2_ < 2147483648)) (hR : RC tys M x s) : xT l y_Ct_fine b_Ct_fine 7 (some .int) { frames := 6, cells := 1, slots := 6, locals := 90 } D tys A [.ref x, .int (iI z1_), .int (iI z2_)] M (qI D A (fun z M' => ((0 ≤ z1_ ∧ z1_ < s 0 0 3) ∧ (0 ≤ z2_ ∧ z2_ ≤ 100000)) ∧ z = sFine (s 0 0 0) (z2_ - sDue (s 3 z1_.toNat)) ∧ M' = M)) (fun E => E = xIA ∧ ¬ ((0 ≤ z1_ ∧ z1_ < s 0 0 3) ∧ (0 ≤ z2_ ∧ z2_ ≤ 100000))) 1 6 := by
  refine xet_of (own := R_Ct) (lv := [(0, .ref x), (1, .int (iI z1_)), (2, .int (iI z2_))]) rfl (by decide) (Nat.le_of_ble_eq_true rfl) rfl ?_
  intro p_ e_ s_ m_ bl_ me_ c_ C hr hex
  have hT9 := hT
  obtain ⟨hT0, hT1, hT2, hT3, hT4, hT5, hT32, hT42, hT52, hT43, hT53, hT54⟩ := hT
  have hR0 := hR
  obtain ⟨np, nl, nt, ns, ho, pa, la, ta, rk, ea, sa, pn, ca, ga, ra, to, oa, gp, gl, gt, gr, ge, gc, so, L, T, c0, hS, ⟨hx, hho, hpa, hla, hta, hrk, hea, hsa, hpn, hca, hga, hra, hoa⟩, ⟨n1, n2, n3, n4, n5, n6, n7, n8, n9⟩, ⟨hLb, hTb, hL63⟩, hPo, hRT⟩ := hR
  have hS0 := hS
  obtain ⟨⟨e1, e2, e3, e4⟩, ⟨b1_, b2_, b3_, b4_⟩, b5_, okp, oklf, okt, oku, oksp, okg, oku6⟩ := hS
  have hps := Ps_of hS0 hPo
  have hH := Ho_of (tys := tys) hS0 hPo hho hla
  have hlok := hH.2.1
  refine g_aload_n C d_Ct_fine_0 0 rfl ?_
  refine g_iload_n C d_Ct_fine_1 1 rfl ?_
  refine g_calliP C (run_V C [.int (iI z1_)] k_Ct_149 (ct_Ct_isPart l D tys A M x ho ta rk ea sa pn to nt ns (s 0 0 0) z1_ (by omega) b3_ hx) hx ⟨rfl, rfl, Nat.le_of_ble_eq_true rfl, Nat.le_of_ble_eq_true rfl⟩ rfl rfl (Nat.le_of_ble_eq_true rfl) d_Ct_fine_2 ⟨Nat.le_of_ble_eq_true rfl, Nat.le_of_ble_eq_true rfl⟩) (fun z1 hz1 => ?_)
  refine g_if_eq C 15 d_Ct_fine_5 rfl (by omega) (fun c2 => ?_) (fun c2 => ?_)
  · exact g_throwW C hl0 (cls := xIA) (text := "no such part or day") (by decide +kernel) cl_Ct_76 ini_IA (by decide +kernel) at_IA1 at_IA2 at_IA3 hex d_Ct_fine_15 d_Ct_fine_18 d_Ct_fine_19 d_Ct_fine_22 d_Ct_fine_25 ⟨Nat.le_of_ble_eq_true rfl, Nat.le_of_ble_eq_true rfl, Nat.le_of_ble_eq_true rfl, Nat.le_of_ble_eq_true rfl⟩ (Nat.le_of_ble_eq_true rfl) (Nat.le_of_ble_eq_true rfl) ⟨rfl, by omega⟩
  · refine g_iload_n C d_Ct_fine_8 2 rfl ?_
    refine g_calliP C (run_S C [.int (iI z2_)] k_Ct_152 (ct_Ct_isDay l D tys A M z2_ (by omega)) ⟨rfl, rfl, Nat.le_of_ble_eq_true rfl, Nat.le_of_ble_eq_true rfl⟩ rfl rfl (Nat.le_of_ble_eq_true rfl) d_Ct_fine_9 ⟨Nat.le_of_ble_eq_true rfl, Nat.le_of_ble_eq_true rfl⟩) (fun z3 hz3 => ?_)
    refine g_if_ne C 26 d_Ct_fine_12 rfl (by omega) (fun c4 => ?_) (fun c4 => ?_)
    · obtain ⟨i, rfl⟩ : ∃ i : Nat, z1_ = (i : Int) := ⟨z1_.toNat, by omega⟩
      obtain ⟨b1, hs1, hpk1, htk1, pa1, hb1, hpa1⟩ := hps.2 i (by omega)
      have htk91 := htk1
      unfold okT at htk91
      refine g_iconst C d_Ct_fine_26 ?_
      refine g_iload_n C d_Ct_fine_27 2 rfl ?_
      refine g_aload_n C d_Ct_fine_28 0 rfl ?_
      refine g_get C f_Ct_18 hx rfl d_Ct_fine_29 ?_
      refine g_iload_n C d_Ct_fine_32 1 rfl ?_
      refine g_aald C 4 hT4 hta (by omega) (by rw [show ((i : Nat) : Int).toNat = i by omega]; exact hs1) d_Ct_fine_33 ?_
      refine g_calliP C (run_V C [] k_Ct_278 (ct_Pt_dueDay l D tys A M b1 (i : Int) pa1 (s 3 i) htk1 hb1) hb1 ⟨rfl, rfl, Nat.le_of_ble_eq_true rfl, Nat.le_of_ble_eq_true rfl⟩ rfl rfl (Nat.le_of_ble_eq_true rfl) d_Ct_fine_34 ⟨Nat.le_of_ble_eq_true rfl, Nat.le_of_ble_eq_true rfl⟩) (fun z5 hz5 => ?_)
      have hbz5 := sDue_b htk1
      refine g_isub C d_Ct_fine_37 ?_
      refine g_mmax C k_Ct_62 (by omega) ⟨Nat.le_of_ble_eq_true rfl, Nat.le_of_ble_eq_true rfl, Nat.le_of_ble_eq_true rfl, Nat.le_of_ble_eq_true rfl⟩ d_Ct_fine_38 ?_
      obtain ⟨z6, ez6⟩ : ∃ z : Int, z = if 0 < z2_ - z5 then z2_ - z5 else 0 := ⟨_, rfl⟩
      rw [← ez6]
      have hz6 : (0 < z2_ - z5 ∧ z6 = z2_ - z5) ∨ (¬ 0 < z2_ - z5 ∧ z6 = 0) := by rw [ez6]; split <;> omega
      refine g_istore_n (lv' := [(3, .int (iI z6)), (0, .ref x), (1, .int (iI ((i : Int)))), (2, .int (iI z2_))]) C d_Ct_fine_41 (by decide) rfl ?_
      refine g_iload_n C d_Ct_fine_42 0 rfl ?_
      refine g_bipush C d_Ct_fine_43 (by decide) ?_
      refine g_mmin C k_Ct_56 (by omega) ⟨Nat.le_of_ble_eq_true rfl, Nat.le_of_ble_eq_true rfl, Nat.le_of_ble_eq_true rfl, Nat.le_of_ble_eq_true rfl⟩ d_Ct_fine_45 ?_
      obtain ⟨z7, ez7⟩ : ∃ z : Int, z = if 10 < z6 then 10 else z6 := ⟨_, rfl⟩
      rw [← ez7]
      have hz7 : (10 < z6 ∧ z7 = 10) ∨ (¬ 10 < z6 ∧ z7 = z6) := by rw [ez7]; split <;> omega
      refine g_istore (lv' := [(4, .int (iI z7)), (3, .int (iI z6)), (0, .ref x), (1, .int (iI ((i : Int)))), (2, .int (iI z2_))]) C d_Ct_fine_48 (by decide) rfl ?_
      refine g_iload_n C d_Ct_fine_50 1 rfl ?_
      refine g_iload C d_Ct_fine_51 0 rfl ?_
      refine g_isub C d_Ct_fine_53 ?_
      refine g_bipush C d_Ct_fine_54 (by decide) ?_
      refine g_mmin C k_Ct_56 (by omega) ⟨Nat.le_of_ble_eq_true rfl, Nat.le_of_ble_eq_true rfl, Nat.le_of_ble_eq_true rfl, Nat.le_of_ble_eq_true rfl⟩ d_Ct_fine_56 ?_
      obtain ⟨z8, ez8⟩ : ∃ z : Int, z = if 20 < z6 - z7 then 20 else z6 - z7 := ⟨_, rfl⟩
      rw [← ez8]
      have hz8 : (20 < z6 - z7 ∧ z8 = 20) ∨ (¬ 20 < z6 - z7 ∧ z8 = z6 - z7) := by rw [ez8]; split <;> omega
      refine g_istore (lv' := [(5, .int (iI z8)), (4, .int (iI z7)), (3, .int (iI z6)), (0, .ref x), (1, .int (iI ((i : Int)))), (2, .int (iI z2_))]) C d_Ct_fine_59 (by decide) rfl ?_
      refine g_iload_n C d_Ct_fine_61 2 rfl ?_
      refine g_iload C d_Ct_fine_62 1 rfl ?_
      refine g_isub C d_Ct_fine_64 ?_
      refine g_iload C d_Ct_fine_65 0 rfl ?_
      refine g_isub C d_Ct_fine_67 ?_
      refine g_istore (lv' := [(6, .int (iI ((z6 - z7) - z8))), (5, .int (iI z8)), (4, .int (iI z7)), (3, .int (iI z6)), (0, .ref x), (1, .int (iI ((i : Int)))), (2, .int (iI z2_))]) C d_Ct_fine_68 (by decide) rfl ?_
      refine g_ldc_w C 1000000 q_Ct_289 d_Ct_fine_70 ?_
      refine g_aload_n C d_Ct_fine_73 4 rfl ?_
      refine g_get C f_Ct_65 hx rfl d_Ct_fine_74 ?_
      refine g_iload C d_Ct_fine_77 2 rfl ?_
      refine g_iconst C d_Ct_fine_79 ?_
      refine g_iload C d_Ct_fine_80 1 rfl ?_
      refine g_imul C d_Ct_fine_82 ?_
      refine g_iadd C d_Ct_fine_83 ?_
      refine g_iconst C d_Ct_fine_84 ?_
      refine g_iload C d_Ct_fine_85 0 rfl ?_
      refine g_imul C d_Ct_fine_87 ?_
      refine g_iadd C d_Ct_fine_88 ?_
      have hdo := sDays_or (z2_ - sDue (s 3 i))
      rw [show (z7 + (2 * z8)) + (4 * ((z6 - z7) - z8)) = sDays (z2_ - sDue (s 3 i)) by omega]
      have hmul := mul_b (a := s 0 0 0) (b := sDays (z2_ - sDue (s 3 i))) (n := 1000) (k := 500000) (by omega) (by omega)
      refine g_imul C d_Ct_fine_89 ?_
      refine g_mmin C k_Ct_56 (by omega) ⟨Nat.le_of_ble_eq_true rfl, Nat.le_of_ble_eq_true rfl, Nat.le_of_ble_eq_true rfl, Nat.le_of_ble_eq_true rfl⟩ d_Ct_fine_90 ?_
      obtain ⟨z9, ez9⟩ : ∃ z : Int, z = if (s 0 0 0) * (sDays (z2_ - sDue (s 3 i))) < 1000000 then (s 0 0 0) * (sDays (z2_ - sDue (s 3 i))) else 1000000 := ⟨_, rfl⟩
      rw [← ez9]
      have hz9 : ((s 0 0 0) * (sDays (z2_ - sDue (s 3 i))) < 1000000 ∧ z9 = (s 0 0 0) * (sDays (z2_ - sDue (s 3 i)))) ∨ (¬ (s 0 0 0) * (sDays (z2_ - sDue (s 3 i))) < 1000000 ∧ z9 = 1000000) := by rw [ez9]; split <;> omega
      refine g_xret ?_
      refine g_widen (k := 1) (n := 6) (Nat.le_of_ble_eq_true rfl) (Nat.le_of_ble_eq_true rfl) ?_
      exact g_iret C hr d_Ct_fine_93 ⟨by omega, (by rw [show ((i : Nat) : Int).toNat = i by omega]; unfold sFine; split <;> omega), rfl⟩
    · exact g_throwW C hl0 (cls := xIA) (text := "no such part or day") (by decide +kernel) cl_Ct_76 ini_IA (by decide +kernel) at_IA1 at_IA2 at_IA3 hex d_Ct_fine_15 d_Ct_fine_18 d_Ct_fine_19 d_Ct_fine_22 d_Ct_fine_25 ⟨Nat.le_of_ble_eq_true rfl, Nat.le_of_ble_eq_true rfl, Nat.le_of_ble_eq_true rfl, Nat.le_of_ble_eq_true rfl⟩ (Nat.le_of_ble_eq_true rfl) (Nat.le_of_ble_eq_true rfl) ⟨rfl, by omega⟩
set_option maxHeartbeats 4000000 in
set_option maxRecDepth 100000 in
theorem ct_Ct_wanted (l : Launch) (hl0 : l.stackTraces = false) (D : va_G) (tys : xK) (A : Nat → Prop) (M : Wm) (hT : tyOK tys) (x : Nat) (s : AS) (z1_ z2_ : Int) (hz1 : (-2147483648 ≤ z1_ ∧ z1_ < 2147483648)) (hz2 : (-2147483648 ≤ z2_ ∧ z2_ < 2147483648)) (hR : RC tys M x s) : xT l y_Ct_wanted b_Ct_wanted 5 (some .int) { frames := 6, cells := 1, slots := 6, locals := 90 } D tys A [.ref x, .int (iI z1_), .int (iI z2_)] M (qI D A (fun z M' => ((0 ≤ z1_ ∧ z1_ ≤ 4) ∧ (0 ≤ z2_ ∧ z2_ ≤ 100000)) ∧ ((s 5 0 z1_.toNat < sCnt s z1_ z2_ (s 0 0 3).toNat ∧ z = sCnt s z1_ z2_ (s 0 0 3).toNat - s 5 0 z1_.toNat) ∨ (¬ s 5 0 z1_.toNat < sCnt s z1_ z2_ (s 0 0 3).toNat ∧ z = 0)) ∧ M' = M)) (fun E => E = xIA ∧ ¬ ((0 ≤ z1_ ∧ z1_ ≤ 4) ∧ (0 ≤ z2_ ∧ z2_ ≤ 100000))) 1 6 := by
  refine xet_of (own := R_Ct) (lv := [(0, .ref x), (1, .int (iI z1_)), (2, .int (iI z2_))]) rfl (by decide) (Nat.le_of_ble_eq_true rfl) rfl ?_
  intro p_ e_ s_ m_ bl_ me_ c_ C hr hex
  have hT9 := hT
  obtain ⟨hT0, hT1, hT2, hT3, hT4, hT5, hT32, hT42, hT52, hT43, hT53, hT54⟩ := hT
  have hR0 := hR
  obtain ⟨np, nl, nt, ns, ho, pa, la, ta, rk, ea, sa, pn, ca, ga, ra, to, oa, gp, gl, gt, gr, ge, gc, so, L, T, c0, hS, ⟨hx, hho, hpa, hla, hta, hrk, hea, hsa, hpn, hca, hga, hra, hoa⟩, ⟨n1, n2, n3, n4, n5, n6, n7, n8, n9⟩, ⟨hLb, hTb, hL63⟩, hPo, hRT⟩ := hR
  have hS0 := hS
  obtain ⟨⟨e1, e2, e3, e4⟩, ⟨b1_, b2_, b3_, b4_⟩, b5_, okp, oklf, okt, oku, oksp, okg, oku6⟩ := hS
  have hps := Ps_of hS0 hPo
  have hH := Ho_of (tys := tys) hS0 hPo hho hla
  have hlok := hH.2.1
  refine g_iload_n C d_Ct_wanted_0 1 rfl ?_
  refine g_calliP C (run_S C [.int (iI z1_)] k_Ct_125 (ct_Ct_isKind l D tys A M z1_ (by omega)) ⟨rfl, rfl, Nat.le_of_ble_eq_true rfl, Nat.le_of_ble_eq_true rfl⟩ rfl rfl (Nat.le_of_ble_eq_true rfl) d_Ct_wanted_1 ⟨Nat.le_of_ble_eq_true rfl, Nat.le_of_ble_eq_true rfl⟩) (fun z1 hz1 => ?_)
  refine g_if_eq C 14 d_Ct_wanted_4 rfl (by omega) (fun c2 => ?_) (fun c2 => ?_)
  · exact g_throwW C hl0 (cls := xIA) (text := "no such kind or day") (by decide +kernel) cl_Ct_76 ini_IA (by decide +kernel) at_IA1 at_IA2 at_IA3 hex d_Ct_wanted_14 d_Ct_wanted_17 d_Ct_wanted_18 d_Ct_wanted_21 d_Ct_wanted_24 ⟨Nat.le_of_ble_eq_true rfl, Nat.le_of_ble_eq_true rfl, Nat.le_of_ble_eq_true rfl, Nat.le_of_ble_eq_true rfl⟩ (Nat.le_of_ble_eq_true rfl) (Nat.le_of_ble_eq_true rfl) ⟨rfl, by omega⟩
  · refine g_iload_n C d_Ct_wanted_7 2 rfl ?_
    refine g_calliP C (run_S C [.int (iI z2_)] k_Ct_152 (ct_Ct_isDay l D tys A M z2_ (by omega)) ⟨rfl, rfl, Nat.le_of_ble_eq_true rfl, Nat.le_of_ble_eq_true rfl⟩ rfl rfl (Nat.le_of_ble_eq_true rfl) d_Ct_wanted_8 ⟨Nat.le_of_ble_eq_true rfl, Nat.le_of_ble_eq_true rfl⟩) (fun z3 hz3 => ?_)
    refine g_if_ne C 25 d_Ct_wanted_11 rfl (by omega) (fun c4 => ?_) (fun c4 => ?_)
    · refine g_iconst C d_Ct_wanted_25 ?_
      refine g_istore_n (lv' := [(3, .int (iI 0)), (0, .ref x), (1, .int (iI z1_)), (2, .int (iI z2_))]) C d_Ct_wanted_26 (by decide) rfl ?_
      refine g_iconst C d_Ct_wanted_27 ?_
      refine g_istore (lv' := [(4, .int (iI 0)), (3, .int (iI 0)), (0, .ref x), (1, .int (iI z1_)), (2, .int (iI z2_))]) C d_Ct_wanted_28 (by decide) rfl ?_
      refine g_sub [2, 3, 4, 1, 0] rfl (g_loop (σ := Nat) (fun q_ => nt - q_) (fun q_ => (q_ ≤ nt)) (fun q_ => [(0, .ref x), (1, .int (iI z1_)), (2, .int (iI z2_)), (3, .int (iI (sCnt s z1_ z2_ q_))), (4, .int (iI ((q_ : Int))))]) (fun q_ => M) ?_ (0) (Nat.zero_le _))
      intro x_ hI ih30
      obtain ⟨k, rfl⟩ : ∃ z, z = x_ := ⟨_, rfl⟩
      try dsimp only at hI ih30 ⊢
      have hk0 := hI
      have hcb := sCnt_b s z1_ z2_ k
      refine g_iload C d_Ct_wanted_30 4 rfl ?_
      refine g_aload_n C d_Ct_wanted_32 0 rfl ?_
      refine g_get C f_Ct_49 hx rfl d_Ct_wanted_33 ?_
      refine g_icmp_ge C 76 d_Ct_wanted_36 rfl (by omega) (fun c5 => ?_) (fun c5 => ?_)
      · refine g_iconst C d_Ct_wanted_76 ?_
        refine g_iload_n C d_Ct_wanted_77 3 rfl ?_
        refine g_aload_n C d_Ct_wanted_78 0 rfl ?_
        refine g_get C f_Ct_31 hx rfl d_Ct_wanted_79 ?_
        refine g_iload_n C d_Ct_wanted_82 1 rfl ?_
        refine g_iald C 0 hT0 hsa (by omega) d_Ct_wanted_83 ?_
        have hsp9 := oksp z1_.toNat
        refine g_isub C d_Ct_wanted_84 ?_
        refine g_mmax C k_Ct_62 (by omega) ⟨Nat.le_of_ble_eq_true rfl, Nat.le_of_ble_eq_true rfl, Nat.le_of_ble_eq_true rfl, Nat.le_of_ble_eq_true rfl⟩ d_Ct_wanted_85 ?_
        obtain ⟨z6, ez6⟩ : ∃ z : Int, z = if 0 < (sCnt s z1_ z2_ k) - ((s 5 0) z1_.toNat) then (sCnt s z1_ z2_ k) - ((s 5 0) z1_.toNat) else 0 := ⟨_, rfl⟩
        rw [← ez6]
        have hz6 : (0 < (sCnt s z1_ z2_ k) - ((s 5 0) z1_.toNat) ∧ z6 = (sCnt s z1_ z2_ k) - ((s 5 0) z1_.toNat)) ∨ (¬ 0 < (sCnt s z1_ z2_ k) - ((s 5 0) z1_.toNat) ∧ z6 = 0) := by rw [ez6]; split <;> omega
        refine g_xret ?_
        refine g_widen (k := 1) (n := 6) (Nat.le_of_ble_eq_true rfl) (Nat.le_of_ble_eq_true rfl) ?_
        exact g_iret C hr d_Ct_wanted_88 ⟨by omega, (by rw [show (s 0 0 3).toNat = k by omega]; omega), rfl⟩
      · obtain ⟨b1, hs1, hpk1, htk1, pa1, hb1, hpa1⟩ := hps.2 k (by omega)
        have htk91 := htk1
        unfold okT at htk91
        refine g_aload_n C d_Ct_wanted_39 0 rfl ?_
        refine g_get C f_Ct_18 hx rfl d_Ct_wanted_40 ?_
        refine g_iload C d_Ct_wanted_43 4 rfl ?_
        refine g_aald C 4 hT4 hta (by omega) (by rw [show ((k : Nat) : Int).toNat = k by omega]; exact hs1) d_Ct_wanted_45 ?_
        refine g_get C f_Ct_268 hb1 rfl d_Ct_wanted_46 ?_
        refine g_iload_n C d_Ct_wanted_49 1 rfl ?_
        refine g_icmp_ne C 70 d_Ct_wanted_50 rfl (by omega) (fun c7 => ?_) (fun c7 => ?_)
        · refine g_iinc (lv' := [(4, .int (iI (((k : Int)) + 1))), (0, .ref x), (1, .int (iI z1_)), (2, .int (iI z2_)), (3, .int (iI (sCnt s z1_ z2_ k)))]) C d_Ct_wanted_70 4 rfl (by decide) rfl ?_
          refine g_goto C 30 d_Ct_wanted_73 rfl ?_
          rw [show sCnt s z1_ z2_ k = sCnt s z1_ z2_ (k + 1) by rw [sCnt.eq_2, if_neg (by omega)]; omega]
          exact g_sub [1, 2, 3, 4, 0] rfl (ih30 (k + 1) (by omega) (by first | omega | (dsimp only; omega)))
        · refine g_aload_n C d_Ct_wanted_53 0 rfl ?_
          refine g_get C f_Ct_18 hx rfl d_Ct_wanted_54 ?_
          refine g_iload C d_Ct_wanted_57 4 rfl ?_
          refine g_aald C 4 hT4 hta (by omega) (by rw [show ((k : Nat) : Int).toNat = k by omega]; exact hs1) d_Ct_wanted_59 ?_
          refine g_calliP C (run_V C [] k_Ct_278 (ct_Pt_dueDay l D tys A M b1 (k : Int) pa1 (s 3 k) htk1 hb1) hb1 ⟨rfl, rfl, Nat.le_of_ble_eq_true rfl, Nat.le_of_ble_eq_true rfl⟩ rfl rfl (Nat.le_of_ble_eq_true rfl) d_Ct_wanted_60 ⟨Nat.le_of_ble_eq_true rfl, Nat.le_of_ble_eq_true rfl⟩) (fun z8 hz8 => ?_)
          have hbz8 := sDue_b htk1
          refine g_iload_n C d_Ct_wanted_63 2 rfl ?_
          refine g_icmp_gt C 70 d_Ct_wanted_64 rfl (by omega) (fun c9 => ?_) (fun c9 => ?_)
          · refine g_iinc (lv' := [(4, .int (iI (((k : Int)) + 1))), (0, .ref x), (1, .int (iI z1_)), (2, .int (iI z2_)), (3, .int (iI (sCnt s z1_ z2_ k)))]) C d_Ct_wanted_70 4 rfl (by decide) rfl ?_
            refine g_goto C 30 d_Ct_wanted_73 rfl ?_
            rw [show sCnt s z1_ z2_ k = sCnt s z1_ z2_ (k + 1) by rw [sCnt.eq_2, if_neg (by omega)]; omega]
            exact g_sub [1, 2, 3, 4, 0] rfl (ih30 (k + 1) (by omega) (by first | omega | (dsimp only; omega)))
          · refine g_iinc (lv' := [(3, .int (iI ((sCnt s z1_ z2_ k) + 1))), (0, .ref x), (1, .int (iI z1_)), (2, .int (iI z2_)), (4, .int (iI ((k : Int))))]) C d_Ct_wanted_67 3 rfl (by decide) rfl ?_
            refine g_iinc (lv' := [(4, .int (iI (((k : Int)) + 1))), (3, .int (iI ((sCnt s z1_ z2_ k) + 1))), (0, .ref x), (1, .int (iI z1_)), (2, .int (iI z2_))]) C d_Ct_wanted_70 4 rfl (by decide) rfl ?_
            refine g_goto C 30 d_Ct_wanted_73 rfl ?_
            rw [show sCnt s z1_ z2_ k + 1 = sCnt s z1_ z2_ (k + 1) by rw [sCnt.eq_2, if_pos (by omega)]]
            exact g_sub [2, 3, 4, 1, 0] rfl (ih30 (k + 1) (by omega) (by first | omega | (dsimp only; omega)))
    · exact g_throwW C hl0 (cls := xIA) (text := "no such kind or day") (by decide +kernel) cl_Ct_76 ini_IA (by decide +kernel) at_IA1 at_IA2 at_IA3 hex d_Ct_wanted_14 d_Ct_wanted_17 d_Ct_wanted_18 d_Ct_wanted_21 d_Ct_wanted_24 ⟨Nat.le_of_ble_eq_true rfl, Nat.le_of_ble_eq_true rfl, Nat.le_of_ble_eq_true rfl, Nat.le_of_ble_eq_true rfl⟩ (Nat.le_of_ble_eq_true rfl) (Nat.le_of_ble_eq_true rfl) ⟨rfl, by omega⟩
set_option maxHeartbeats 4000000 in
set_option maxRecDepth 100000 in
theorem ct_Ct_late (l : Launch) (hl0 : l.stackTraces = false) (D : va_G) (tys : xK) (A : Nat → Prop) (M : Wm) (hT : tyOK tys) (x : Nat) (s : AS) (z1_ : Int) (hz1 : (-2147483648 ≤ z1_ ∧ z1_ < 2147483648)) (hR : RC tys M x s) : xT l y_Ct_late b_Ct_late 2 (some .int) { frames := 6, cells := 1, slots := 6, locals := 90 } D tys A [.ref x, .int (iI z1_)] M (qI D A (fun z M' => (0 ≤ z1_) ∧ ((s 0 0 3 ≤ z1_ ∧ z = -1) ∨ (z1_ < s 0 0 3 ∧ (0 ≤ z ∧ z < s 0 0 3) ∧ bfc (fun p => sDue (s 3 p)) (s 0 0 3).toNat z.toNat = z1_.toNat)) ∧ RC tys M' x s)) (fun E => E = xIA ∧ ¬ (0 ≤ z1_)) 1 6 := by
  refine xet_of (own := R_Ct) (lv := [(0, .ref x), (1, .int (iI z1_))]) rfl (by decide) (Nat.le_of_ble_eq_true rfl) rfl ?_
  intro p_ e_ s_ m_ bl_ me_ c_ C hr hex
  have hT9 := hT
  obtain ⟨hT0, hT1, hT2, hT3, hT4, hT5, hT32, hT42, hT52, hT43, hT53, hT54⟩ := hT
  have hR0 := hR
  obtain ⟨np, nl, nt, ns, ho, pa, la, ta, rk, ea, sa, pn, ca, ga, ra, to, oa, gp, gl, gt, gr, ge, gc, so, L, T, c0, hS, ⟨hx, hho, hpa, hla, hta, hrk, hea, hsa, hpn, hca, hga, hra, hoa⟩, ⟨n1, n2, n3, n4, n5, n6, n7, n8, n9⟩, ⟨hLb, hTb, hL63⟩, hPo, hRT⟩ := hR
  have hS0 := hS
  obtain ⟨⟨e1, e2, e3, e4⟩, ⟨b1_, b2_, b3_, b4_⟩, b5_, okp, oklf, okt, oku, oksp, okg, oku6⟩ := hS
  have hps := Ps_of hS0 hPo
  have hH := Ho_of (tys := tys) hS0 hPo hho hla
  have hlok := hH.2.1
  obtain ⟨fto, hto⟩ := RT_to hRT
  refine g_iload_n C d_Ct_late_0 1 rfl ?_
  refine g_if_ge C 15 d_Ct_late_1 rfl (by omega) (fun c1 => ?_) (fun c1 => ?_)
  · refine g_iload_n C d_Ct_late_15 1 rfl ?_
    refine g_aload_n C d_Ct_late_16 0 rfl ?_
    refine g_get C f_Ct_49 hx rfl d_Ct_late_17 ?_
    refine g_icmp_lt C 25 d_Ct_late_20 rfl (by omega) (fun c2 => ?_) (fun c2 => ?_)
    · obtain ⟨i, rfl⟩ : ∃ i : Nat, z1_ = (i : Int) := ⟨z1_.toNat, by omega⟩
      refine g_aload_n C d_Ct_late_25 0 rfl ?_
      refine g_callv C (run_V C [] k_Ct_284 (ct_Ct_rankByDueDays l D tys A M hT9 x ho ta rk ea sa pn to nt ns (s 0 0 0) gt gr (sPP s) (s 3) hx hta hrk n1 hps) hx ⟨rfl, rfl, Nat.le_of_ble_eq_true rfl, Nat.le_of_ble_eq_true rfl⟩ rfl rfl (Nat.le_of_ble_eq_true rfl) d_Ct_late_26 ⟨Nat.le_of_ble_eq_true rfl, Nat.le_of_ble_eq_true rfl⟩) (fun M3 hM3 => ?_)
      obtain ⟨gR, Lq, hRk, rfl⟩ := hM3
      have hlt9 := hRk.lt (k := i) (by omega)
      obtain ⟨b1, hs1, hpk1, htk1, pa1, hb1, hpa1⟩ := hps.2 (Lq.getD i 0) (by omega)
      refine g_aload_n C d_Ct_late_29 0 rfl ?_
      refine g_get C f_Ct_22 ((wd_up_n (ne_oa hx hrk)).trans hx) rfl d_Ct_late_30 ?_
      refine g_iload_n C d_Ct_late_33 1 rfl ?_
      refine g_aald C 4 hT4 wd_up_s (by omega) (by rw [show ((i : Nat) : Int).toNat = i by omega, hRk.2.2 i (by omega)]; exact hs1) d_Ct_late_34 ?_
      refine g_get C f_Ct_216 ((wd_up_n (ne_oa hb1 hrk)).trans hb1) rfl d_Ct_late_35 ?_
      refine g_xret ?_
      refine g_widen (k := 1) (n := 6) (Nat.le_of_ble_eq_true rfl) (Nat.le_of_ble_eq_true rfl) ?_
      exact g_iret C hr d_Ct_late_38 ⟨by omega, Or.inr ⟨by omega, by omega, (by rw [show ((Lq.getD i 0 : Nat) : Int).toNat = Lq.getD i 0 by omega, show (s 0 0 3).toNat = nt by omega, show ((i : Nat) : Int).toNat = i by omega]; exact bfc_at hRk.1 hRk.2.1 (by rw [List.getD_eq_getElem?_getD, List.getElem?_eq_getElem (show i < Lq.length by rw [hRk.len]; omega)]; rfl))⟩, ⟨np, nl, nt, ns, ho, pa, la, ta, rk, ea, sa, pn, ca, ga, ra, to, oa, gp, gl, gt, gR, ge, gc, so, L, T, c0, hS0, ⟨((wd_up_n (ne_oa hx hrk)).trans hx), ((wd_up_n (ne_oa hho hrk)).trans hho), ((wd_up_n (Ne.symm (ne_tt hrk hpa hT42))).trans hpa), ((wd_up_n (Ne.symm (ne_tt hrk hla hT43))).trans hla), ((wd_up_n n1).trans hta), wd_up_s, ((wd_up_n (ne_tt hea hrk hT54)).trans hea), ((wd_up_n (ne_ia hsa hrk)).trans hsa), ((wd_up_n (ne_oa hpn hrk)).trans hpn), ((wd_up_n (Ne.symm n4)).trans hca), ((wd_up_n (ne_ia hga hrk)).trans hga), ((wd_up_n (ne_ia hra hrk)).trans hra), ((wd_up_n (Ne.symm n5)).trans hoa)⟩, ⟨n1, n2, n3, n4, n5, n6, n7, n8, n9⟩, ⟨hLb, hTb, hL63⟩, Pools_up hPo hrk trivial, RT_M hRT hto ((wd_up_n (ne_oa hto hrk)).trans hto)⟩⟩
    · refine g_iconst C d_Ct_late_23 ?_
      refine g_xret ?_
      refine g_widen (k := 1) (n := 6) (Nat.le_of_ble_eq_true rfl) (Nat.le_of_ble_eq_true rfl) ?_
      exact g_iret C hr d_Ct_late_24 ⟨by omega, Or.inl ⟨by omega, rfl⟩, hR0⟩
  · exact g_throwW C hl0 (cls := xIA) (text := "below 0") (by decide +kernel) cl_Ct_76 ini_IA (by decide +kernel) at_IA1 at_IA2 at_IA3 hex d_Ct_late_4 d_Ct_late_7 d_Ct_late_8 d_Ct_late_11 d_Ct_late_14 ⟨Nat.le_of_ble_eq_true rfl, Nat.le_of_ble_eq_true rfl, Nat.le_of_ble_eq_true rfl, Nat.le_of_ble_eq_true rfl⟩ (Nat.le_of_ble_eq_true rfl) (Nat.le_of_ble_eq_true rfl) ⟨rfl, by omega⟩
