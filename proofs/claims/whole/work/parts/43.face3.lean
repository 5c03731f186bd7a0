/-! THE FACE, writers: written by program (wip/whole/gen/face3.py) -/
set_option maxHeartbeats 4000000 in
set_option maxRecDepth 100000 in
theorem ct_Ct_stock (l : Launch) (hl0 : l.stackTraces = false) (D : va_G) (tys : xK) (A : Nat → Prop) (M : Wm) (hT : tyOK tys) (x : Nat) (s : AS) (z1_ z2_ : Int) (hz1 : (-2147483648 ≤ z1_ ∧ z1_ < 2147483648)) (hz2 : (-2147483648 ≤ z2_ ∧ z2_ < 2147483648)) (hg7 : s 7 0 0 < 600) (hR : RC tys M x s) : xT l y_Ct_stock b_Ct_stock 3 (some .int) { frames := 6, cells := 1, slots := 6, locals := 90 } D tys A [.ref x, .int (iI z1_), .int (iI z2_)] M (qI D A (fun z M' => ((0 ≤ z1_ ∧ z1_ ≤ 4) ∧ (1 ≤ z2_ ∧ z2_ ≤ 1000)) ∧ z = s 5 0 z1_.toNat + z2_ ∧ RC tys M' x (sStk s z1_.toNat z2_))) (fun E => E = xIA ∧ ¬ ((0 ≤ z1_ ∧ z1_ ≤ 4) ∧ (1 ≤ z2_ ∧ z2_ ≤ 1000))) 1 6 := by
  refine xet_of (own := R_Ct) (lv := [(0, .ref x), (1, .int (iI z1_)), (2, .int (iI z2_))]) rfl (by decide) (Nat.le_of_ble_eq_true rfl) rfl ?_
  intro p_ e_ s_ m_ bl_ me_ c_ C hr hex
  have hT9 := hT
  obtain ⟨hT0, hT1, hT2, hT3, hT4, hT5, hT32, hT42, hT52, hT43, hT53, hT54⟩ := hT
  have hR0 := hR
  obtain ⟨np, nl, nt, ns, ho, pa, la, ta, rk, ea, sa, pn, ca, ga, ra, to, oa, gp, gl, gt, gr, ge, gc, so, L, T, c0, hS, ⟨hx, hho, hpa, hla, hta, hrk, hea, hsa, hpn, hca, hga, hra, hoa⟩, ⟨n1, n2, n3, n4, n5, n6, n7, n8, n9⟩, ⟨hLb, hTb, hL63⟩, hPo, hRT⟩ := hR
  have hS0 := hS
  obtain ⟨⟨e1, e2, e3, e4⟩, ⟨b1_, b2_, b3_, b4_⟩, b5_, okp, oklf, okt, oku, oksp, okg, oku6⟩ := hS
  have hps := Ps_of hS0 hPo
  have hH := Ho_of (tys := tys) hS0 hPo hho hla
  have hlok := hH.2.1
  obtain ⟨fto, hto⟩ := RT_to hRT
  refine g_iload_n C d_Ct_stock_0 1 rfl ?_
  refine g_calliP C (run_S C [.int (iI z1_)] k_Ct_125 (ct_Ct_isKind l D tys A M z1_ (by omega)) ⟨rfl, rfl, Nat.le_of_ble_eq_true rfl, Nat.le_of_ble_eq_true rfl⟩ rfl rfl (Nat.le_of_ble_eq_true rfl) d_Ct_stock_1 ⟨Nat.le_of_ble_eq_true rfl, Nat.le_of_ble_eq_true rfl⟩) (fun z1 hz1 => ?_)
  refine g_if_eq C 18 d_Ct_stock_4 rfl (by omega) (fun c2 => ?_) (fun c2 => ?_)
  · exact g_throw C hl0 (cls := xIA) (text := "no such kind or number") (by decide +kernel) cl_Ct_76 ini_IA (by decide +kernel) at_IA1 at_IA2 at_IA3 hex d_Ct_stock_18 d_Ct_stock_21 d_Ct_stock_22 d_Ct_stock_24 d_Ct_stock_27 ⟨Nat.le_of_ble_eq_true rfl, Nat.le_of_ble_eq_true rfl, Nat.le_of_ble_eq_true rfl, Nat.le_of_ble_eq_true rfl⟩ (Nat.le_of_ble_eq_true rfl) (Nat.le_of_ble_eq_true rfl) ⟨rfl, by omega⟩
  · refine g_iload_n C d_Ct_stock_7 2 rfl ?_
    refine g_iconst C d_Ct_stock_8 ?_
    refine g_sipush C d_Ct_stock_9 (by decide) ?_
    refine g_calliP C (run_S C [.int (iI z2_), .int (iI 1), .int (iI 1000)] k_Ct_68 (ct_Ct_within l D tys A M z2_ 1 1000 (by omega)) ⟨rfl, rfl, Nat.le_of_ble_eq_true rfl, Nat.le_of_ble_eq_true rfl⟩ rfl rfl (Nat.le_of_ble_eq_true rfl) d_Ct_stock_12 ⟨Nat.le_of_ble_eq_true rfl, Nat.le_of_ble_eq_true rfl⟩) (fun z3 hz3 => ?_)
    refine g_if_ne C 28 d_Ct_stock_15 rfl (by omega) (fun c4 => ?_) (fun c4 => ?_)
    · refine g_aload_n C d_Ct_stock_28 0 rfl ?_
      refine g_get C f_Ct_31 hx rfl d_Ct_stock_29 ?_
      refine g_iload_n C d_Ct_stock_32 1 rfl ?_
      refine g_dup2 C rfl rfl d_Ct_stock_33 ?_
      refine g_iald C 0 hT0 hsa (by omega) d_Ct_stock_34 ?_
      refine g_iload_n C d_Ct_stock_35 2 rfl ?_
      refine g_iadd C d_Ct_stock_36 ?_
      refine g_iast C 0 hT0 hsa (by omega) d_Ct_stock_37 ?_
      refine g_aload_n C d_Ct_stock_38 0 rfl ?_
      refine g_get C f_Ct_31 ((wd_up_n (ne_oa hx hsa)).trans hx) rfl d_Ct_stock_39 ?_
      refine g_iload_n C d_Ct_stock_42 1 rfl ?_
      refine g_iald C 0 hT0 wd_up_s (by omega) d_Ct_stock_43 ?_
      refine g_xret ?_
      refine g_widen (k := 1) (n := 6) (Nat.le_of_ble_eq_true rfl) (Nat.le_of_ble_eq_true rfl) ?_
      exact g_iret C hr d_Ct_stock_44 ⟨by omega, iu_s, ⟨np, nl, nt, ns, ho, pa, la, ta, rk, ea, sa, pn, ca, ga, ra, to, oa, gp, gl, gt, gr, ge, gc, so, L, T, c0, okS_stk hS0 hg7 (by omega), ⟨((wd_up_n (ne_oa hx hsa)).trans hx), ((wd_up_n (ne_oa hho hsa)).trans hho), ((wd_up_n (Ne.symm (ne_ia hsa hpa))).trans hpa), ((wd_up_n (Ne.symm (ne_ia hsa hla))).trans hla), ((wd_up_n (Ne.symm (ne_ia hsa hta))).trans hta), ((wd_up_n (Ne.symm (ne_ia hsa hrk))).trans hrk), ((wd_up_n (Ne.symm (ne_ia hsa hea))).trans hea), wd_up_s, ((wd_up_n (ne_oa hpn hsa)).trans hpn), ((wd_up_n (Ne.symm (ne_ia hsa hca))).trans hca), ((wd_up_n (Ne.symm n7)).trans hga), ((wd_up_n (Ne.symm n8)).trans hra), ((wd_up_n (Ne.symm (ne_ia hsa hoa))).trans hoa)⟩, ⟨n1, n2, n3, n4, n5, n6, n7, n8, n9⟩, ⟨hLb, hTb, hL63⟩, Pools_cg (Pools_up hPo hsa trivial) rfl rfl rfl rfl, RT_ag hRT ⟨rfl, rfl, rfl, rfl, fun _ _ => ⟨rfl, rfl⟩⟩ ⟨rfl, rfl, rfl, rfl, rfl, rfl⟩ (Nat.le_refl _) (fun _ _ => rfl) hto ((wd_up_n (ne_oa hto hsa)).trans hto)⟩⟩
    · exact g_throw C hl0 (cls := xIA) (text := "no such kind or number") (by decide +kernel) cl_Ct_76 ini_IA (by decide +kernel) at_IA1 at_IA2 at_IA3 hex d_Ct_stock_18 d_Ct_stock_21 d_Ct_stock_22 d_Ct_stock_24 d_Ct_stock_27 ⟨Nat.le_of_ble_eq_true rfl, Nat.le_of_ble_eq_true rfl, Nat.le_of_ble_eq_true rfl, Nat.le_of_ble_eq_true rfl⟩ (Nat.le_of_ble_eq_true rfl) (Nat.le_of_ble_eq_true rfl) ⟨rfl, by omega⟩
set_option maxHeartbeats 4000000 in
set_option maxRecDepth 100000 in
theorem ct_Ct_used (l : Launch) (hl0 : l.stackTraces = false) (D : va_G) (tys : xK) (A : Nat → Prop) (M : Wm) (hT : tyOK tys) (x : Nat) (s : AS) (z1_ z2_ z3_ : Int) (hz1 : (-2147483648 ≤ z1_ ∧ z1_ < 2147483648)) (hz2 : (-2147483648 ≤ z2_ ∧ z2_ < 2147483648)) (hz3 : (-2147483648 ≤ z3_ ∧ z3_ < 2147483648)) (hg7 : s 7 0 0 < 600) (hR : RC tys M x s) : xT l y_Ct_used b_Ct_used 5 (some .int) { frames := 6, cells := 1, slots := 6, locals := 90 } D tys A [.ref x, .int (iI z1_), .int (iI z2_), .int (iI z3_)] M (qI D A (fun z M' => (((0 ≤ z1_ ∧ z1_ < s 0 0 3) ∧ (0 ≤ z2_ ∧ z2_ ≤ 100000) ∧ (1 ≤ z3_ ∧ z3_ ≤ 1000)) ∧ s 3 z1_.toNat 7 ≤ z2_) ∧ z = s 3 z1_.toNat 6 + z3_ ∧ RC tys M' x (sUse s z1_.toNat z2_ z3_))) (fun E => E = xIA ∧ ¬ (((0 ≤ z1_ ∧ z1_ < s 0 0 3) ∧ (0 ≤ z2_ ∧ z2_ ≤ 100000) ∧ (1 ≤ z3_ ∧ z3_ ≤ 1000)) ∧ s 3 z1_.toNat 7 ≤ z2_)) 1 6 := by
  refine xet_of (own := R_Ct) (lv := [(0, .ref x), (1, .int (iI z1_)), (2, .int (iI z2_)), (3, .int (iI z3_))]) rfl (by decide) (Nat.le_of_ble_eq_true rfl) rfl ?_
  intro p_ e_ s_ m_ bl_ me_ c_ C hr hex
  have hT9 := hT
  obtain ⟨hT0, hT1, hT2, hT3, hT4, hT5, hT32, hT42, hT52, hT43, hT53, hT54⟩ := hT
  have hR0 := hR
  obtain ⟨np, nl, nt, ns, ho, pa, la, ta, rk, ea, sa, pn, ca, ga, ra, to, oa, gp, gl, gt, gr, ge, gc, so, L, T, c0, hS, ⟨hx, hho, hpa, hla, hta, hrk, hea, hsa, hpn, hca, hga, hra, hoa⟩, ⟨n1, n2, n3, n4, n5, n6, n7, n8, n9⟩, ⟨hLb, hTb, hL63⟩, hPo, hRT⟩ := hR
  have hS0 := hS
  obtain ⟨⟨e1, e2, e3, e4⟩, ⟨b1_, b2_, b3_, b4_⟩, b5_, okp, oklf, okt, oku, oksp, okg, oku6⟩ := hS
  have hps := Ps_of hS0 hPo
  have hH := Ho_of (tys := tys) hS0 hPo hho hla
  have hlok := hH.2.1
  obtain ⟨fto, hto⟩ := RT_to hRT
  refine g_aload_n C d_Ct_used_0 0 rfl ?_
  refine g_iload_n C d_Ct_used_1 1 rfl ?_
  refine g_calliP C (run_V C [.int (iI z1_)] k_Ct_149 (ct_Ct_isPart l D tys A M x ho ta rk ea sa pn to nt ns (s 0 0 0) z1_ (by omega) b3_ hx) hx ⟨rfl, rfl, Nat.le_of_ble_eq_true rfl, Nat.le_of_ble_eq_true rfl⟩ rfl rfl (Nat.le_of_ble_eq_true rfl) d_Ct_used_2 ⟨Nat.le_of_ble_eq_true rfl, Nat.le_of_ble_eq_true rfl⟩) (fun z1 hz1 => ?_)
  refine g_if_eq C 26 d_Ct_used_5 rfl (by omega) (fun c2 => ?_) (fun c2 => ?_)
  · exact g_throw C hl0 (cls := xIA) (text := "no such part, day or hours") (by decide +kernel) cl_Ct_76 ini_IA (by decide +kernel) at_IA1 at_IA2 at_IA3 hex d_Ct_used_26 d_Ct_used_29 d_Ct_used_30 d_Ct_used_32 d_Ct_used_35 ⟨Nat.le_of_ble_eq_true rfl, Nat.le_of_ble_eq_true rfl, Nat.le_of_ble_eq_true rfl, Nat.le_of_ble_eq_true rfl⟩ (Nat.le_of_ble_eq_true rfl) (Nat.le_of_ble_eq_true rfl) ⟨rfl, by omega⟩
  · refine g_iload_n C d_Ct_used_8 2 rfl ?_
    refine g_calliP C (run_S C [.int (iI z2_)] k_Ct_152 (ct_Ct_isDay l D tys A M z2_ (by omega)) ⟨rfl, rfl, Nat.le_of_ble_eq_true rfl, Nat.le_of_ble_eq_true rfl⟩ rfl rfl (Nat.le_of_ble_eq_true rfl) d_Ct_used_9 ⟨Nat.le_of_ble_eq_true rfl, Nat.le_of_ble_eq_true rfl⟩) (fun z3 hz3 => ?_)
    refine g_if_eq C 26 d_Ct_used_12 rfl (by omega) (fun c4 => ?_) (fun c4 => ?_)
    · exact g_throw C hl0 (cls := xIA) (text := "no such part, day or hours") (by decide +kernel) cl_Ct_76 ini_IA (by decide +kernel) at_IA1 at_IA2 at_IA3 hex d_Ct_used_26 d_Ct_used_29 d_Ct_used_30 d_Ct_used_32 d_Ct_used_35 ⟨Nat.le_of_ble_eq_true rfl, Nat.le_of_ble_eq_true rfl, Nat.le_of_ble_eq_true rfl, Nat.le_of_ble_eq_true rfl⟩ (Nat.le_of_ble_eq_true rfl) (Nat.le_of_ble_eq_true rfl) ⟨rfl, by omega⟩
    · refine g_iload_n C d_Ct_used_15 3 rfl ?_
      refine g_iconst C d_Ct_used_16 ?_
      refine g_sipush C d_Ct_used_17 (by decide) ?_
      refine g_calliP C (run_S C [.int (iI z3_), .int (iI 1), .int (iI 1000)] k_Ct_68 (ct_Ct_within l D tys A M z3_ 1 1000 (by omega)) ⟨rfl, rfl, Nat.le_of_ble_eq_true rfl, Nat.le_of_ble_eq_true rfl⟩ rfl rfl (Nat.le_of_ble_eq_true rfl) d_Ct_used_20 ⟨Nat.le_of_ble_eq_true rfl, Nat.le_of_ble_eq_true rfl⟩) (fun z5 hz5 => ?_)
      refine g_if_ne C 36 d_Ct_used_23 rfl (by omega) (fun c6 => ?_) (fun c6 => ?_)
      · obtain ⟨i, rfl⟩ : ∃ i : Nat, z1_ = (i : Int) := ⟨z1_.toNat, by omega⟩
        obtain ⟨b1, hs1, hpk1, htk1, pa1, hb1, hpa1⟩ := hps.2 i (by omega)
        have htk91 := htk1
        unfold okT at htk91
        refine g_aload_n C d_Ct_used_36 0 rfl ?_
        refine g_get C f_Ct_18 hx rfl d_Ct_used_37 ?_
        refine g_iload_n C d_Ct_used_40 1 rfl ?_
        refine g_aald C 4 hT4 hta (by omega) (by rw [show ((i : Nat) : Int).toNat = i by omega]; exact hs1) d_Ct_used_41 ?_
        refine g_astore (lv' := [(4, .ref b1), (0, .ref x), (1, .int (iI ((i : Int)))), (2, .int (iI z2_)), (3, .int (iI z3_))]) C d_Ct_used_42 (by decide) rfl ?_
        refine g_iload_n C d_Ct_used_44 3 rfl ?_
        refine g_aload C d_Ct_used_45 0 rfl ?_
        refine g_get C f_Ct_157 hb1 rfl d_Ct_used_47 ?_
        refine g_icmp_ge C 63 d_Ct_used_50 rfl (by omega) (fun c7 => ?_) (fun c7 => ?_)
        · refine g_aload C d_Ct_used_63 0 rfl ?_
          refine g_iload_n C d_Ct_used_65 3 rfl ?_
          refine g_iload_n C d_Ct_used_66 4 rfl ?_
          refine g_callv C (run_V C [.int (iI z2_), .int (iI z3_)] k_Ct_162 (ct_Pt_addUse l D tys A M b1 (i : Int) pa1 (s 3 i) z2_ z3_ htk1 (by omega) (by omega) hb1) hb1 ⟨rfl, rfl, Nat.le_of_ble_eq_true rfl, Nat.le_of_ble_eq_true rfl⟩ rfl rfl (Nat.le_of_ble_eq_true rfl) d_Ct_used_67 ⟨Nat.le_of_ble_eq_true rfl, Nat.le_of_ble_eq_true rfl⟩) (fun M8 hM8 => ?_)
          have hM8e : M8 = va_up M b1 (some (.inr (2, [.int (iI ((i : Int))), .ref pa1, .int (iI (s 3 i 0)), .int (iI (s 3 i 1)), .int (iI (s 3 i 2)), .int (iI (s 3 i 3)), .int (iI (s 3 i 4)), .int (iI (s 3 i 5)), .int (iI (s 3 i 6 + z3_)), .int (iI z2_), .int (iI (if s 3 i 8 = -1 ∧ s 3 i 3 ≤ s 3 i 6 + z3_ then z2_ else s 3 i 8))]))) := by
            by_cases q_ : s 3 i 8 = -1 ∧ s 3 i 3 ≤ s 3 i 6 + z3_
            · rw [if_pos q_]; exact hM8.1 q_
            · rw [if_neg q_]; exact hM8.2 q_
          subst hM8e
          refine g_aload C d_Ct_used_70 0 rfl ?_
          refine g_get C f_Ct_166 wd_up_s rfl d_Ct_used_72 ?_
          refine g_xret ?_
          refine g_widen (k := 1) (n := 6) (Nat.le_of_ble_eq_true rfl) (Nat.le_of_ble_eq_true rfl) ?_
          exact g_iret C hr d_Ct_used_75 ⟨by rw [show ((i : Nat) : Int).toNat = i by omega]; omega, rfl, ⟨np, nl, nt, ns, ho, pa, la, ta, rk, ea, sa, pn, ca, ga, ra, to, oa, gp, gl, gt, gr, ge, gc, so, L, T, c0, okS_use hS0 hg7 (by omega) (by omega) (by omega), ⟨((wd_up_n (ne_oo hx hb1 (by decide))).trans hx), ((wd_up_n (ne_oo hho hb1 (by decide))).trans hho), ((wd_up_n (Ne.symm (ne_oa hb1 hpa))).trans hpa), ((wd_up_n (Ne.symm (ne_oa hb1 hla))).trans hla), ((wd_up_n (Ne.symm (ne_oa hb1 hta))).trans hta), ((wd_up_n (Ne.symm (ne_oa hb1 hrk))).trans hrk), ((wd_up_n (Ne.symm (ne_oa hb1 hea))).trans hea), ((wd_up_n (Ne.symm (ne_oa hb1 hsa))).trans hsa), ((wd_up_n (ne_oo hpn hb1 (by decide))).trans hpn), ((wd_up_n (Ne.symm (ne_oa hb1 hca))).trans hca), ((wd_up_n (Ne.symm (ne_oa hb1 hga))).trans hga), ((wd_up_n (Ne.symm (ne_oa hb1 hra))).trans hra), ((wd_up_n (Ne.symm (ne_oa hb1 hoa))).trans hoa)⟩, ⟨n1, n2, n3, n4, n5, n6, n7, n8, n9⟩, ⟨hLb, hTb, hL63⟩, Pools_pt (s' := sUse s i z2_ z3_) hPo b3_ (by omega) hs1 hb1 rfl rfl rfl rfl rfl, RT_ag hRT Ag_use ⟨rfl, rfl, rfl, rfl, rfl, rfl⟩ (Nat.le_refl _) (fun _ _ => rfl) hto ((wd_up_n (ne_oo hto hb1 (by decide))).trans hto)⟩⟩
        · exact g_throw C hl0 (cls := xIA) (text := "the day is below one that is known") (by decide +kernel) cl_Ct_76 ini_IA (by decide +kernel) at_IA1 at_IA2 at_IA3 hex d_Ct_used_53 d_Ct_used_56 d_Ct_used_57 d_Ct_used_59 d_Ct_used_62 ⟨Nat.le_of_ble_eq_true rfl, Nat.le_of_ble_eq_true rfl, Nat.le_of_ble_eq_true rfl, Nat.le_of_ble_eq_true rfl⟩ (Nat.le_of_ble_eq_true rfl) (Nat.le_of_ble_eq_true rfl) ⟨rfl, by rw [show ((i : Nat) : Int).toNat = i by omega]; omega⟩
      · exact g_throw C hl0 (cls := xIA) (text := "no such part, day or hours") (by decide +kernel) cl_Ct_76 ini_IA (by decide +kernel) at_IA1 at_IA2 at_IA3 hex d_Ct_used_26 d_Ct_used_29 d_Ct_used_30 d_Ct_used_32 d_Ct_used_35 ⟨Nat.le_of_ble_eq_true rfl, Nat.le_of_ble_eq_true rfl, Nat.le_of_ble_eq_true rfl, Nat.le_of_ble_eq_true rfl⟩ (Nat.le_of_ble_eq_true rfl) (Nat.le_of_ble_eq_true rfl) ⟨rfl, by omega⟩
set_option maxHeartbeats 4000000 in
set_option maxRecDepth 100000 in
theorem ct_Ct_done (l : Launch) (hl0 : l.stackTraces = false) (D : va_G) (tys : xK) (A : Nat → Prop) (M : Wm) (hT : tyOK tys) (x : Nat) (s : AS) (hR : RC tys M x s) : xT l y_Ct_done b_Ct_done 2 (some .int) { frames := 6, cells := 1, slots := 6, locals := 90 } D tys A [.ref x] M (qI D A (fun z M' => s 0 0 8 < s 0 0 7 ∧ ((s 5 0 (s 3 (s 6 0 (s 0 0 8).toNat).toNat 1).toNat ≤ 0 ∧ z = -2 ∧ M' = M) ∨ (0 < s 5 0 (s 3 (s 6 0 (s 0 0 8).toNat).toNat 1).toNat ∧ z = s 6 0 (s 0 0 8).toNat ∧ RC tys M' x (sDon s (s 6 0 (s 0 0 8).toNat).toNat))))) (fun E => E = xIS ∧ ¬ s 0 0 8 < s 0 0 7) 1 6 := by
  refine xet_of (own := R_Ct) (lv := [(0, .ref x)]) rfl (by decide) (Nat.le_of_ble_eq_true rfl) rfl ?_
  intro p_ e_ s_ m_ bl_ me_ c_ C hr hex
  have hT9 := hT
  obtain ⟨hT0, hT1, hT2, hT3, hT4, hT5, hT32, hT42, hT52, hT43, hT53, hT54⟩ := hT
  have hR0 := hR
  obtain ⟨np, nl, nt, ns, ho, pa, la, ta, rk, ea, sa, pn, ca, ga, ra, to, oa, gp, gl, gt, gr, ge, gc, so, L, T, c0, hS, ⟨hx, hho, hpa, hla, hta, hrk, hea, hsa, hpn, hca, hga, hra, hoa⟩, ⟨n1, n2, n3, n4, n5, n6, n7, n8, n9⟩, ⟨hLb, hTb, hL63⟩, hPo, hRT⟩ := hR
  have hS0 := hS
  obtain ⟨⟨e1, e2, e3, e4⟩, ⟨b1_, b2_, b3_, b4_⟩, b5_, okp, oklf, okt, oku, oksp, okg, oku6⟩ := hS
  have hps := Ps_of hS0 hPo
  have hH := Ho_of (tys := tys) hS0 hPo hho hla
  have hlok := hH.2.1
  rcases hRT with ⟨hw5, ⟨c7, c8, c9, c10⟩, d0, hto⟩ | ⟨w, gq, cn, dn, hw5, hwn, hge, c7, c8, hcd, h6, hlegs, c9, c10, hto, hso⟩
  · have hcase := hw5
    refine g_aload_n C d_Ct_done_0 0 rfl ?_
    refine g_get C f_Ct_45 hx rfl d_Ct_done_1 ?_
    refine g_get C f_Ct_225 hto rfl d_Ct_done_4 ?_
    refine g_aload_n C d_Ct_done_7 0 rfl ?_
    refine g_get C f_Ct_45 hx rfl d_Ct_done_8 ?_
    refine g_get C f_Ct_208 hto rfl d_Ct_done_11 ?_
    refine g_icmp_lt C 28 d_Ct_done_14 rfl (by omega) (fun c1 => ?_) (fun c1 => ?_)
    · exfalso; omega
    · exact g_throwW C hl0 (cls := xIS) (text := "no tour under way, or all stops are done") (by decide +kernel) cl_Ct_86 ini_IS (by decide +kernel) at_IS1 at_IS2 at_IS3 hex d_Ct_done_17 d_Ct_done_20 d_Ct_done_21 d_Ct_done_24 d_Ct_done_27 ⟨Nat.le_of_ble_eq_true rfl, Nat.le_of_ble_eq_true rfl, Nat.le_of_ble_eq_true rfl, Nat.le_of_ble_eq_true rfl⟩ (Nat.le_of_ble_eq_true rfl) (Nat.le_of_ble_eq_true rfl) ⟨rfl, by omega⟩
  · have hTA := To_of (tys := tys) hS0 hPo hwn hge hcd hto hoa hso
    obtain ⟨gq2, hgq, hphw, huw, hmw, hgq1, hhm⟩ := Pe_of hS0 hPo w hwn
    rw [hge] at hgq
    cases hgq
    refine g_aload_n C d_Ct_done_0 0 rfl ?_
    refine g_get C f_Ct_45 hx rfl d_Ct_done_1 ?_
    refine g_get C f_Ct_225 hto rfl d_Ct_done_4 ?_
    refine g_aload_n C d_Ct_done_7 0 rfl ?_
    refine g_get C f_Ct_45 hx rfl d_Ct_done_8 ?_
    refine g_get C f_Ct_208 hto rfl d_Ct_done_11 ?_
    refine g_icmp_lt C 28 d_Ct_done_14 rfl (by omega) (fun c2 => ?_) (fun c2 => ?_)
    · have edn : (s 0 0 8).toNat = dn := by omega
      obtain ⟨hi6, hi7⟩ := hso dn (by omega)
      obtain ⟨b1, hs1, hpk1, htk1, pa1, hb1, hpa1⟩ := hps.2 (s 6 0 dn).toNat (by omega)
      have htk9 := htk1
      unfold okT at htk9
      have hsp9 := oksp (s 3 (s 6 0 dn).toNat 1).toNat
      refine g_aload_n C d_Ct_done_28 0 rfl ?_
      refine g_get C f_Ct_45 hx rfl d_Ct_done_29 ?_
      refine g_get C f_Ct_213 hto rfl d_Ct_done_32 ?_
      refine g_aload_n C d_Ct_done_35 0 rfl ?_
      refine g_get C f_Ct_45 hx rfl d_Ct_done_36 ?_
      refine g_get C f_Ct_225 hto rfl d_Ct_done_39 ?_
      refine g_aald C 4 hT4 hoa (by omega) (by rw [show ((dn : Nat) : Int).toNat = dn by omega, hi7]; exact hs1) d_Ct_done_42 ?_
      refine g_astore_n (lv' := [(1, .ref b1), (0, .ref x)]) C d_Ct_done_43 (by decide) rfl ?_
      refine g_aload_n C d_Ct_done_44 1 rfl ?_
      refine g_get C f_Ct_31 hx rfl d_Ct_done_45 ?_
      refine g_aload_n C d_Ct_done_48 0 rfl ?_
      refine g_get C f_Ct_268 hb1 rfl d_Ct_done_49 ?_
      refine g_iald C 0 hT0 hsa (by omega) d_Ct_done_52 ?_
      refine g_if_gt C 59 d_Ct_done_53 rfl (by omega) (fun c3 => ?_) (fun c3 => ?_)
      · refine g_aload_n C d_Ct_done_59 1 rfl ?_
        refine g_get C f_Ct_31 hx rfl d_Ct_done_60 ?_
        refine g_aload_n C d_Ct_done_63 0 rfl ?_
        refine g_get C f_Ct_268 hb1 rfl d_Ct_done_64 ?_
        refine g_dup2 C rfl rfl d_Ct_done_67 ?_
        refine g_iald C 0 hT0 hsa (by omega) d_Ct_done_68 ?_
        refine g_iconst C d_Ct_done_69 ?_
        refine g_isub C d_Ct_done_70 ?_
        refine g_iast C 0 hT0 hsa (by omega) d_Ct_done_71 ?_
        refine g_aload_n C d_Ct_done_72 0 rfl ?_
        refine g_aload_n C d_Ct_done_73 1 rfl ?_
        refine g_get C f_Ct_45 ((wd_up_n (ne_oa hx hsa)).trans hx) rfl d_Ct_done_74 ?_
        refine g_get C f_Ct_271 ((wd_up_n (ne_oa hto hsa)).trans hto) rfl d_Ct_done_77 ?_
        refine g_callv C (run_V C [.int (iI (s 0 0 6))] k_Ct_274 (ct_Pt_renew l D tys A (va_up M sa (some (.inl (tc tys 0, 5, .inl (fun j_ => iI (va_up (s 5 0) (s 3 (s 6 0 dn).toNat 1).toNat (((s 5 0) (s 3 (s 6 0 dn).toNat 1).toNat) - 1) j_)))))) b1 ((s 6 0 dn).toNat : Int) pa1 (s 3 (s 6 0 dn).toNat) (s 0 0 6) ((wd_up_n (ne_oa hb1 hsa)).trans hb1)) ((wd_up_n (ne_oa hb1 hsa)).trans hb1) ⟨rfl, rfl, Nat.le_of_ble_eq_true rfl, Nat.le_of_ble_eq_true rfl⟩ rfl rfl (Nat.le_of_ble_eq_true rfl) d_Ct_done_80 ⟨Nat.le_of_ble_eq_true rfl, Nat.le_of_ble_eq_true rfl⟩) (fun M4 hM4 => ?_)
        subst hM4
        refine g_aload_n C d_Ct_done_83 1 rfl ?_
        refine g_get C f_Ct_45 ((wd_up_n (ne_oo hx hb1 (by decide))).trans ((wd_up_n (ne_oa hx hsa)).trans hx)) rfl d_Ct_done_84 ?_
        refine g_dup C rfl d_Ct_done_87 ?_
        refine g_get C f_Ct_225 ((wd_up_n (ne_oo hto hb1 (by decide))).trans ((wd_up_n (ne_oa hto hsa)).trans hto)) rfl d_Ct_done_88 ?_
        refine g_iconst C d_Ct_done_91 ?_
        refine g_iadd C d_Ct_done_92 ?_
        refine g_put C p_Ct_225 ((wd_up_n (ne_oo hto hb1 (by decide))).trans ((wd_up_n (ne_oa hto hsa)).trans hto)) rfl rfl (Nat.le_of_ble_eq_true rfl) (fs' := [.ref oa, .ref gq, .int (iI (s 0 0 6)), .int (iI ((cn : Int))), .int (iI (((dn : Int)) + 1)), .int (iI (s 0 0 9)), .int (iI (s 0 0 10))]) rfl d_Ct_done_93 ?_
        refine g_aload_n C d_Ct_done_96 0 rfl ?_
        refine g_get C f_Ct_216 ((wd_up_n (ne_oo hb1 hto (by decide))).trans wd_up_s) rfl d_Ct_done_97 ?_
        refine g_xret ?_
        refine g_widen (k := 1) (n := 6) (Nat.le_of_ble_eq_true rfl) (Nat.le_of_ble_eq_true rfl) ?_
        exact g_iret C hr d_Ct_done_100 ⟨by omega, Or.inr ⟨by rw [edn]; omega, by rw [edn]; omega, by rw [edn]; exact ⟨np, nl, nt, ns, ho, pa, la, ta, rk, ea, sa, pn, ca, ga, ra, to, oa, gp, gl, gt, gr, ge, gc, so, L, T, c0, okS_don hS0 h6 (by omega) (by omega), ⟨((wd_up_n (ne_oo hx hto (by decide))).trans ((wd_up_n (ne_oo hx hb1 (by decide))).trans ((wd_up_n (ne_oa hx hsa)).trans hx))), ((wd_up_n (ne_oo hho hto (by decide))).trans ((wd_up_n (ne_oo hho hb1 (by decide))).trans ((wd_up_n (ne_oa hho hsa)).trans hho))), ((wd_up_n (Ne.symm (ne_oa hto hpa))).trans ((wd_up_n (Ne.symm (ne_oa hb1 hpa))).trans ((wd_up_n (Ne.symm (ne_ia hsa hpa))).trans hpa))), ((wd_up_n (Ne.symm (ne_oa hto hla))).trans ((wd_up_n (Ne.symm (ne_oa hb1 hla))).trans ((wd_up_n (Ne.symm (ne_ia hsa hla))).trans hla))), ((wd_up_n (Ne.symm (ne_oa hto hta))).trans ((wd_up_n (Ne.symm (ne_oa hb1 hta))).trans ((wd_up_n (Ne.symm (ne_ia hsa hta))).trans hta))), ((wd_up_n (Ne.symm (ne_oa hto hrk))).trans ((wd_up_n (Ne.symm (ne_oa hb1 hrk))).trans ((wd_up_n (Ne.symm (ne_ia hsa hrk))).trans hrk))), ((wd_up_n (Ne.symm (ne_oa hto hea))).trans ((wd_up_n (Ne.symm (ne_oa hb1 hea))).trans ((wd_up_n (Ne.symm (ne_ia hsa hea))).trans hea))), ((wd_up_n (Ne.symm (ne_oa hto hsa))).trans ((wd_up_n (Ne.symm (ne_oa hb1 hsa))).trans wd_up_s)), ((wd_up_n (ne_oo hpn hto (by decide))).trans ((wd_up_n (ne_oo hpn hb1 (by decide))).trans ((wd_up_n (ne_oa hpn hsa)).trans hpn))), ((wd_up_n (Ne.symm (ne_oa hto hca))).trans ((wd_up_n (Ne.symm (ne_oa hb1 hca))).trans ((wd_up_n (Ne.symm (ne_ia hsa hca))).trans hca))), ((wd_up_n (Ne.symm (ne_oa hto hga))).trans ((wd_up_n (Ne.symm (ne_oa hb1 hga))).trans ((wd_up_n (Ne.symm n7)).trans hga))), ((wd_up_n (Ne.symm (ne_oa hto hra))).trans ((wd_up_n (Ne.symm (ne_oa hb1 hra))).trans ((wd_up_n (Ne.symm n8)).trans hra))), ((wd_up_n (Ne.symm (ne_oa hto hoa))).trans ((wd_up_n (Ne.symm (ne_oa hb1 hoa))).trans ((wd_up_n (Ne.symm (ne_ia hsa hoa))).trans hoa)))⟩, ⟨n1, n2, n3, n4, n5, n6, n7, n8, n9⟩, ⟨hLb, hTb, hL63⟩, Pools_up (Pools_pt (Pools_up hPo hsa trivial) b3_ (by omega) hs1 ((wd_up_n (ne_oa hb1 hsa)).trans hb1) (s' := sDon s (s 6 0 dn).toNat) rfl rfl rfl rfl rfl) ((wd_up_n (ne_oo hto hb1 (by decide))).trans ((wd_up_n (ne_oa hto hsa)).trans hto)) (show (6 : Nat) ≠ 1 ∧ (6 : Nat) ≠ 2 ∧ (6 : Nat) ≠ 3 ∧ (6 : Nat) ≠ 4 by decide), RT_don (M := M) hw5 hwn hge c7 c8 hcd (by omega) h6 hlegs c9 c10 hso wd_up_s⟩⟩⟩
      · refine g_bipush C d_Ct_done_56 (by decide) ?_
        refine g_xret ?_
        refine g_widen (k := 1) (n := 6) (Nat.le_of_ble_eq_true rfl) (Nat.le_of_ble_eq_true rfl) ?_
        exact g_iret C hr d_Ct_done_58 ⟨by omega, Or.inl ⟨by rw [edn]; omega, rfl, rfl⟩⟩
    · exact g_throwW C hl0 (cls := xIS) (text := "no tour under way, or all stops are done") (by decide +kernel) cl_Ct_86 ini_IS (by decide +kernel) at_IS1 at_IS2 at_IS3 hex d_Ct_done_17 d_Ct_done_20 d_Ct_done_21 d_Ct_done_24 d_Ct_done_27 ⟨Nat.le_of_ble_eq_true rfl, Nat.le_of_ble_eq_true rfl, Nat.le_of_ble_eq_true rfl, Nat.le_of_ble_eq_true rfl⟩ (Nat.le_of_ble_eq_true rfl) (Nat.le_of_ble_eq_true rfl) ⟨rfl, by omega⟩
set_option maxHeartbeats 4000000 in
set_option maxRecDepth 100000 in
theorem ct_Ct_place (l : Launch) (hl0 : l.stackTraces = false) (D : va_G) (tys : xK) (A : Nat → Prop) (M : Wm) (hT : tyOK tys) (x : Nat) (s : AS) (z1_ z2_ z3_ : Int) (hz1 : (-2147483648 ≤ z1_ ∧ z1_ < 2147483648)) (hz2 : (-2147483648 ≤ z2_ ∧ z2_ < 2147483648)) (hz3 : (-2147483648 ≤ z3_ ∧ z3_ < 2147483648)) (hR : RC tys M x s) : xT l y_Ct_place b_Ct_place 4 (some .int) { frames := 6, cells := 1, slots := 6, locals := 90 } D tys A [.ref x, .int (iI z1_), .int (iI z2_), .int (iI z3_)] M (qI D A (fun z M' => ((0 ≤ z1_ ∧ z1_ ≤ 30) ∧ (0 ≤ z2_ ∧ z2_ ≤ 100) ∧ (0 ≤ z3_ ∧ z3_ ≤ 100)) ∧ s 0 0 1 < 30 ∧ z = s 0 0 1 ∧ RC tys M' x (sPlace s z1_ z2_ z3_))) (fun E => (E = xIA ∧ ¬ ((0 ≤ z1_ ∧ z1_ ≤ 30) ∧ (0 ≤ z2_ ∧ z2_ ≤ 100) ∧ (0 ≤ z3_ ∧ z3_ ≤ 100))) ∨ (E = xIS ∧ ((0 ≤ z1_ ∧ z1_ ≤ 30) ∧ (0 ≤ z2_ ∧ z2_ ≤ 100) ∧ (0 ≤ z3_ ∧ z3_ ≤ 100)) ∧ 30 ≤ s 0 0 1)) 1 6 := by
  refine xet_of (own := R_Ct) (lv := [(0, .ref x), (1, .int (iI z1_)), (2, .int (iI z2_)), (3, .int (iI z3_))]) rfl (by decide) (Nat.le_of_ble_eq_true rfl) rfl ?_
  intro p_ e_ s_ m_ bl_ me_ c_ C hr hex
  have hT9 := hT
  obtain ⟨hT0, hT1, hT2, hT3, hT4, hT5, hT32, hT42, hT52, hT43, hT53, hT54⟩ := hT
  have hR0 := hR
  obtain ⟨np, nl, nt, ns, ho, pa, la, ta, rk, ea, sa, pn, ca, ga, ra, to, oa, gp, gl, gt, gr, ge, gc, so, L, T, c0, hS, ⟨hx, hho, hpa, hla, hta, hrk, hea, hsa, hpn, hca, hga, hra, hoa⟩, ⟨n1, n2, n3, n4, n5, n6, n7, n8, n9⟩, ⟨hLb, hTb, hL63⟩, hPo, hRT⟩ := hR
  have hS0 := hS
  obtain ⟨⟨e1, e2, e3, e4⟩, ⟨b1_, b2_, b3_, b4_⟩, b5_, okp, oklf, okt, oku, oksp, okg, oku6⟩ := hS
  have hps := Ps_of hS0 hPo
  have hH := Ho_of (tys := tys) hS0 hPo hho hla
  have hlok := hH.2.1
  rcases hRT with ⟨hw5, ⟨c7, c8, c9, c10⟩, d0, hto⟩ | ⟨w, gq, cn, dn, hw5, hwn, hge, c7, c8, hcd, h6, hlegs, c9, c10, hto, hso⟩
  · have hcase := hw5
    refine g_iload_n C d_Ct_place_0 1 rfl ?_
    refine g_iconst C d_Ct_place_1 ?_
    refine g_bipush C d_Ct_place_2 (by decide) ?_
    refine g_calliP C (run_S C [.int (iI z1_), .int (iI 0), .int (iI 30)] k_Ct_68 (ct_Ct_within l D tys A M z1_ 0 30 (by omega)) ⟨rfl, rfl, Nat.le_of_ble_eq_true rfl, Nat.le_of_ble_eq_true rfl⟩ rfl rfl (Nat.le_of_ble_eq_true rfl) d_Ct_place_4 ⟨Nat.le_of_ble_eq_true rfl, Nat.le_of_ble_eq_true rfl⟩) (fun z1 hz1 => ?_)
    refine g_if_eq C 18 d_Ct_place_7 rfl (by omega) (fun c2 => ?_) (fun c2 => ?_)
    · exact g_throw C hl0 (cls := xIA) (text := "no such floor or spot") (by decide +kernel) cl_Ct_76 ini_IA (by decide +kernel) at_IA1 at_IA2 at_IA3 hex d_Ct_place_18 d_Ct_place_21 d_Ct_place_22 d_Ct_place_24 d_Ct_place_27 ⟨Nat.le_of_ble_eq_true rfl, Nat.le_of_ble_eq_true rfl, Nat.le_of_ble_eq_true rfl, Nat.le_of_ble_eq_true rfl⟩ (Nat.le_of_ble_eq_true rfl) (Nat.le_of_ble_eq_true rfl) (Or.inl ⟨rfl, by omega⟩)
    · refine g_iload_n C d_Ct_place_10 2 rfl ?_
      refine g_iload_n C d_Ct_place_11 3 rfl ?_
      refine g_calliP C (run_S C [.int (iI z2_), .int (iI z3_)] k_Ct_72 (ct_Ct_isSpot l D tys A M z2_ z3_ (by omega)) ⟨rfl, rfl, Nat.le_of_ble_eq_true rfl, Nat.le_of_ble_eq_true rfl⟩ rfl rfl (Nat.le_of_ble_eq_true rfl) d_Ct_place_12 ⟨Nat.le_of_ble_eq_true rfl, Nat.le_of_ble_eq_true rfl⟩) (fun z3 hz3 => ?_)
      refine g_if_ne C 28 d_Ct_place_15 rfl (by omega) (fun c4 => ?_) (fun c4 => ?_)
      · refine g_aload_n C d_Ct_place_28 0 rfl ?_
        refine g_get C f_Ct_10 hx rfl d_Ct_place_29 ?_
        refine g_get C f_Ct_83 hho rfl d_Ct_place_32 ?_
        refine g_bipush C d_Ct_place_35 (by decide) ?_
        refine g_icmp_lt C 50 d_Ct_place_37 rfl (by omega) (fun c5 => ?_) (fun c5 => ?_)
        · refine g_aload_n C d_Ct_place_50 0 rfl ?_
          refine g_get C f_Ct_45 hx rfl d_Ct_place_51 ?_
          refine g_callv C (run_V C [] k_Ct_91 (ct_To_end l D tys A M to oa none d0 0 0 0 0 hto) hto ⟨rfl, rfl, Nat.le_of_ble_eq_true rfl, Nat.le_of_ble_eq_true rfl⟩ rfl rfl (Nat.le_of_ble_eq_true rfl) d_Ct_place_54 ⟨Nat.le_of_ble_eq_true rfl, Nat.le_of_ble_eq_true rfl⟩) (fun M6 hM6 => ?_)
          subst hM6
          refine g_aload_n C d_Ct_place_57 0 rfl ?_
          refine g_get C f_Ct_10 ((wd_up_n (ne_oo hx hto (by decide))).trans hx) rfl d_Ct_place_58 ?_
          refine g_new C nw_Ct_94 ⟨Nat.le_of_ble_eq_true rfl, Nat.le_of_ble_eq_true rfl⟩ d_Ct_place_61 (fun q7 hq7 => ?_)
          refine g_dup C rfl d_Ct_place_64 ?_
          refine g_iload_n C d_Ct_place_65 1 rfl ?_
          refine g_iload_n C d_Ct_place_66 2 rfl ?_
          refine g_iload_n C d_Ct_place_67 3 rfl ?_
          refine g_callv C (run_I C [.int (iI z1_), .int (iI z2_), .int (iI z3_)] k_Ct_96 (ct_Pl_init l D tys A (va_up (va_up M to (some (.inr (6, [.ref oa, .null, .int (iI d0), .int (iI 0), .int (iI 0), .int (iI 0), .int (iI 0)])))) q7 (some (.inr (4, [.int (iI 0), .int (iI 0), .int (iI 0)])))) q7 z1_ z2_ z3_ wd_up_s) ⟨rfl, rfl, Nat.le_of_ble_eq_true rfl, Nat.le_of_ble_eq_true rfl⟩ rfl rfl (Nat.le_of_ble_eq_true rfl) d_Ct_place_68 ⟨Nat.le_of_ble_eq_true rfl, Nat.le_of_ble_eq_true rfl⟩) (fun M8 hM8 => ?_)
          subst hM8
          refine g_world (bx_uu _ _ _ _) ?_
          refine g_calli C (run_V C [.ref q7] k_Ct_99 (ct_Ho_addPlace l D tys A (va_up (va_up M to (some (.inr (6, [.ref oa, .null, .int (iI d0), .int (iI 0), .int (iI 0), .int (iI 0), .int (iI 0)])))) q7 (some (.inr (4, [.int (iI z1_), .int (iI z2_), .int (iI z3_)])))) hT9 ho pa la np nl q7 gp _ (by omega) ((wd_up_n (ne_new hq7 ((wd_up_n (ne_oo hho hto (by decide))).trans hho))).trans ((wd_up_n (ne_oo hho hto (by decide))).trans hho)) ((wd_up_n (ne_new hq7 ((wd_up_n (Ne.symm (ne_oa hto hpa))).trans hpa))).trans ((wd_up_n (Ne.symm (ne_oa hto hpa))).trans hpa)) wd_up_s) ((wd_up_n (ne_new hq7 ((wd_up_n (ne_oo hho hto (by decide))).trans hho))).trans ((wd_up_n (ne_oo hho hto (by decide))).trans hho)) ⟨rfl, rfl, Nat.le_of_ble_eq_true rfl, Nat.le_of_ble_eq_true rfl⟩ rfl rfl (Nat.le_of_ble_eq_true rfl) d_Ct_place_71 ⟨Nat.le_of_ble_eq_true rfl, Nat.le_of_ble_eq_true rfl⟩) (fun z10 M9 hM9 => ?_)
          obtain ⟨rfl, rfl⟩ := hM9
          refine g_xret ?_
          refine g_widen (k := 1) (n := 6) (Nat.le_of_ble_eq_true rfl) (Nat.le_of_ble_eq_true rfl) ?_
          exact g_iret C hr d_Ct_place_74 ⟨by omega, by omega, e1.symm, ⟨np + 1, nl, nt, ns, ho, pa, la, ta, rk, ea, sa, pn, ca, ga, ra, to, oa, va_up gp np (some q7), gl, gt, gr, ge, gc, so, L, T, c0, okS_place hS0 (by omega) (okP_r3 (by omega)), ⟨((wd_up_n (ne_oo hx hho (by decide))).trans ((wd_up_n (ne_oa hx hpa)).trans ((wd_up_n (ne_new hq7 ((wd_up_n (ne_oo hx hto (by decide))).trans hx))).trans ((wd_up_n (ne_oo hx hto (by decide))).trans hx)))), wd_up_s, ((wd_up_n (Ne.symm (ne_oa hho hpa))).trans wd_up_s), ((wd_up_n (Ne.symm (ne_oa hho hla))).trans ((wd_up_n (ne_tt hla hpa hT32)).trans ((wd_up_n (ne_new hq7 ((wd_up_n (Ne.symm (ne_oa hto hla))).trans hla))).trans ((wd_up_n (Ne.symm (ne_oa hto hla))).trans hla)))), ((wd_up_n (Ne.symm (ne_oa hho hta))).trans ((wd_up_n (ne_tt hta hpa hT42)).trans ((wd_up_n (ne_new hq7 ((wd_up_n (Ne.symm (ne_oa hto hta))).trans hta))).trans ((wd_up_n (Ne.symm (ne_oa hto hta))).trans hta)))), ((wd_up_n (Ne.symm (ne_oa hho hrk))).trans ((wd_up_n (ne_tt hrk hpa hT42)).trans ((wd_up_n (ne_new hq7 ((wd_up_n (Ne.symm (ne_oa hto hrk))).trans hrk))).trans ((wd_up_n (Ne.symm (ne_oa hto hrk))).trans hrk)))), ((wd_up_n (Ne.symm (ne_oa hho hea))).trans ((wd_up_n (ne_tt hea hpa hT52)).trans ((wd_up_n (ne_new hq7 ((wd_up_n (Ne.symm (ne_oa hto hea))).trans hea))).trans ((wd_up_n (Ne.symm (ne_oa hto hea))).trans hea)))), ((wd_up_n (Ne.symm (ne_oa hho hsa))).trans ((wd_up_n (ne_ia hsa hpa)).trans ((wd_up_n (ne_new hq7 ((wd_up_n (Ne.symm (ne_oa hto hsa))).trans hsa))).trans ((wd_up_n (Ne.symm (ne_oa hto hsa))).trans hsa)))), ((wd_up_n (ne_oo hpn hho (by decide))).trans ((wd_up_n (ne_oa hpn hpa)).trans ((wd_up_n (ne_new hq7 ((wd_up_n (ne_oo hpn hto (by decide))).trans hpn))).trans ((wd_up_n (ne_oo hpn hto (by decide))).trans hpn)))), ((wd_up_n (Ne.symm (ne_oa hho hca))).trans ((wd_up_n (ne_tt hca hpa hT42)).trans ((wd_up_n (ne_new hq7 ((wd_up_n (Ne.symm (ne_oa hto hca))).trans hca))).trans ((wd_up_n (Ne.symm (ne_oa hto hca))).trans hca)))), ((wd_up_n (Ne.symm (ne_oa hho hga))).trans ((wd_up_n (ne_ia hga hpa)).trans ((wd_up_n (ne_new hq7 ((wd_up_n (Ne.symm (ne_oa hto hga))).trans hga))).trans ((wd_up_n (Ne.symm (ne_oa hto hga))).trans hga)))), ((wd_up_n (Ne.symm (ne_oa hho hra))).trans ((wd_up_n (ne_ia hra hpa)).trans ((wd_up_n (ne_new hq7 ((wd_up_n (Ne.symm (ne_oa hto hra))).trans hra))).trans ((wd_up_n (Ne.symm (ne_oa hto hra))).trans hra)))), ((wd_up_n (Ne.symm (ne_oa hho hoa))).trans ((wd_up_n (ne_tt hoa hpa hT42)).trans ((wd_up_n (ne_new hq7 ((wd_up_n (Ne.symm (ne_oa hto hoa))).trans hoa))).trans ((wd_up_n (Ne.symm (ne_oa hto hoa))).trans hoa))))⟩, ⟨n1, n2, n3, n4, n5, n6, n7, n8, n9⟩, ⟨hLb, hTb, hL63⟩, Pools_place hS0 (Pools_up (Pools_up (Pools_new (Pools_up hPo hto (show (6 : Nat) ≠ 1 ∧ (6 : Nat) ≠ 2 ∧ (6 : Nat) ≠ 3 ∧ (6 : Nat) ≠ 4 by decide)) hq7) ((wd_up_n (ne_new hq7 ((wd_up_n (Ne.symm (ne_oa hto hpa))).trans hpa))).trans ((wd_up_n (Ne.symm (ne_oa hto hpa))).trans hpa)) trivial) ((wd_up_n (ne_oa hho hpa)).trans ((wd_up_n (ne_new hq7 ((wd_up_n (ne_oo hho hto (by decide))).trans hho))).trans ((wd_up_n (ne_oo hho hto (by decide))).trans hho))) (show (0 : Nat) ≠ 1 ∧ (0 : Nat) ≠ 2 ∧ (0 : Nat) ≠ 3 ∧ (0 : Nat) ≠ 4 by decide)) ((wd_up_n (Ne.symm (ne_new hq7 ((wd_up_n (ne_oo hho hto (by decide))).trans hho)))).trans ((wd_up_n (Ne.symm (ne_new hq7 ((wd_up_n (Ne.symm (ne_oa hto hpa))).trans hpa)))).trans wd_up_s)), Or.inl ⟨rfl, ⟨rfl, rfl, rfl, rfl⟩, d0, ((wd_up_n (ne_oo hto hho (by decide))).trans ((wd_up_n (ne_oa hto hpa)).trans ((wd_up_n (ne_new hq7 wd_up_s)).trans wd_up_s)))⟩⟩⟩
        · exact g_throw C hl0 (cls := xIS) (text := "there are 30 places") (by decide +kernel) cl_Ct_86 ini_IS (by decide +kernel) at_IS1 at_IS2 at_IS3 hex d_Ct_place_40 d_Ct_place_43 d_Ct_place_44 d_Ct_place_46 d_Ct_place_49 ⟨Nat.le_of_ble_eq_true rfl, Nat.le_of_ble_eq_true rfl, Nat.le_of_ble_eq_true rfl, Nat.le_of_ble_eq_true rfl⟩ (Nat.le_of_ble_eq_true rfl) (Nat.le_of_ble_eq_true rfl) (Or.inr ⟨rfl, by omega, by omega⟩)
      · exact g_throw C hl0 (cls := xIA) (text := "no such floor or spot") (by decide +kernel) cl_Ct_76 ini_IA (by decide +kernel) at_IA1 at_IA2 at_IA3 hex d_Ct_place_18 d_Ct_place_21 d_Ct_place_22 d_Ct_place_24 d_Ct_place_27 ⟨Nat.le_of_ble_eq_true rfl, Nat.le_of_ble_eq_true rfl, Nat.le_of_ble_eq_true rfl, Nat.le_of_ble_eq_true rfl⟩ (Nat.le_of_ble_eq_true rfl) (Nat.le_of_ble_eq_true rfl) (Or.inl ⟨rfl, by omega⟩)
  · have hTA := To_of (tys := tys) hS0 hPo hwn hge hcd hto hoa hso
    obtain ⟨gq2, hgq, hphw, huw, hmw, hgq1, hhm⟩ := Pe_of hS0 hPo w hwn
    rw [hge] at hgq
    cases hgq
    refine g_iload_n C d_Ct_place_0 1 rfl ?_
    refine g_iconst C d_Ct_place_1 ?_
    refine g_bipush C d_Ct_place_2 (by decide) ?_
    refine g_calliP C (run_S C [.int (iI z1_), .int (iI 0), .int (iI 30)] k_Ct_68 (ct_Ct_within l D tys A M z1_ 0 30 (by omega)) ⟨rfl, rfl, Nat.le_of_ble_eq_true rfl, Nat.le_of_ble_eq_true rfl⟩ rfl rfl (Nat.le_of_ble_eq_true rfl) d_Ct_place_4 ⟨Nat.le_of_ble_eq_true rfl, Nat.le_of_ble_eq_true rfl⟩) (fun z11 hz11 => ?_)
    refine g_if_eq C 18 d_Ct_place_7 rfl (by omega) (fun c12 => ?_) (fun c12 => ?_)
    · exact g_throw C hl0 (cls := xIA) (text := "no such floor or spot") (by decide +kernel) cl_Ct_76 ini_IA (by decide +kernel) at_IA1 at_IA2 at_IA3 hex d_Ct_place_18 d_Ct_place_21 d_Ct_place_22 d_Ct_place_24 d_Ct_place_27 ⟨Nat.le_of_ble_eq_true rfl, Nat.le_of_ble_eq_true rfl, Nat.le_of_ble_eq_true rfl, Nat.le_of_ble_eq_true rfl⟩ (Nat.le_of_ble_eq_true rfl) (Nat.le_of_ble_eq_true rfl) (Or.inl ⟨rfl, by omega⟩)
    · refine g_iload_n C d_Ct_place_10 2 rfl ?_
      refine g_iload_n C d_Ct_place_11 3 rfl ?_
      refine g_calliP C (run_S C [.int (iI z2_), .int (iI z3_)] k_Ct_72 (ct_Ct_isSpot l D tys A M z2_ z3_ (by omega)) ⟨rfl, rfl, Nat.le_of_ble_eq_true rfl, Nat.le_of_ble_eq_true rfl⟩ rfl rfl (Nat.le_of_ble_eq_true rfl) d_Ct_place_12 ⟨Nat.le_of_ble_eq_true rfl, Nat.le_of_ble_eq_true rfl⟩) (fun z13 hz13 => ?_)
      refine g_if_ne C 28 d_Ct_place_15 rfl (by omega) (fun c14 => ?_) (fun c14 => ?_)
      · refine g_aload_n C d_Ct_place_28 0 rfl ?_
        refine g_get C f_Ct_10 hx rfl d_Ct_place_29 ?_
        refine g_get C f_Ct_83 hho rfl d_Ct_place_32 ?_
        refine g_bipush C d_Ct_place_35 (by decide) ?_
        refine g_icmp_lt C 50 d_Ct_place_37 rfl (by omega) (fun c15 => ?_) (fun c15 => ?_)
        · refine g_aload_n C d_Ct_place_50 0 rfl ?_
          refine g_get C f_Ct_45 hx rfl d_Ct_place_51 ?_
          refine g_callv C (run_V C [] k_Ct_91 (ct_To_end l D tys A M to oa (some gq) (s 0 0 6) ((cn : Int)) ((dn : Int)) (s 0 0 9) (s 0 0 10) hto) hto ⟨rfl, rfl, Nat.le_of_ble_eq_true rfl, Nat.le_of_ble_eq_true rfl⟩ rfl rfl (Nat.le_of_ble_eq_true rfl) d_Ct_place_54 ⟨Nat.le_of_ble_eq_true rfl, Nat.le_of_ble_eq_true rfl⟩) (fun M16 hM16 => ?_)
          subst hM16
          refine g_aload_n C d_Ct_place_57 0 rfl ?_
          refine g_get C f_Ct_10 ((wd_up_n (ne_oo hx hto (by decide))).trans hx) rfl d_Ct_place_58 ?_
          refine g_new C nw_Ct_94 ⟨Nat.le_of_ble_eq_true rfl, Nat.le_of_ble_eq_true rfl⟩ d_Ct_place_61 (fun q17 hq17 => ?_)
          refine g_dup C rfl d_Ct_place_64 ?_
          refine g_iload_n C d_Ct_place_65 1 rfl ?_
          refine g_iload_n C d_Ct_place_66 2 rfl ?_
          refine g_iload_n C d_Ct_place_67 3 rfl ?_
          refine g_callv C (run_I C [.int (iI z1_), .int (iI z2_), .int (iI z3_)] k_Ct_96 (ct_Pl_init l D tys A (va_up (va_up M to (some (.inr (6, [.ref oa, .null, .int (iI (s 0 0 6)), .int (iI 0), .int (iI 0), .int (iI 0), .int (iI 0)])))) q17 (some (.inr (4, [.int (iI 0), .int (iI 0), .int (iI 0)])))) q17 z1_ z2_ z3_ wd_up_s) ⟨rfl, rfl, Nat.le_of_ble_eq_true rfl, Nat.le_of_ble_eq_true rfl⟩ rfl rfl (Nat.le_of_ble_eq_true rfl) d_Ct_place_68 ⟨Nat.le_of_ble_eq_true rfl, Nat.le_of_ble_eq_true rfl⟩) (fun M18 hM18 => ?_)
          subst hM18
          refine g_world (bx_uu _ _ _ _) ?_
          refine g_calli C (run_V C [.ref q17] k_Ct_99 (ct_Ho_addPlace l D tys A (va_up (va_up M to (some (.inr (6, [.ref oa, .null, .int (iI (s 0 0 6)), .int (iI 0), .int (iI 0), .int (iI 0), .int (iI 0)])))) q17 (some (.inr (4, [.int (iI z1_), .int (iI z2_), .int (iI z3_)])))) hT9 ho pa la np nl q17 gp _ (by omega) ((wd_up_n (ne_new hq17 ((wd_up_n (ne_oo hho hto (by decide))).trans hho))).trans ((wd_up_n (ne_oo hho hto (by decide))).trans hho)) ((wd_up_n (ne_new hq17 ((wd_up_n (Ne.symm (ne_oa hto hpa))).trans hpa))).trans ((wd_up_n (Ne.symm (ne_oa hto hpa))).trans hpa)) wd_up_s) ((wd_up_n (ne_new hq17 ((wd_up_n (ne_oo hho hto (by decide))).trans hho))).trans ((wd_up_n (ne_oo hho hto (by decide))).trans hho)) ⟨rfl, rfl, Nat.le_of_ble_eq_true rfl, Nat.le_of_ble_eq_true rfl⟩ rfl rfl (Nat.le_of_ble_eq_true rfl) d_Ct_place_71 ⟨Nat.le_of_ble_eq_true rfl, Nat.le_of_ble_eq_true rfl⟩) (fun z20 M19 hM19 => ?_)
          obtain ⟨rfl, rfl⟩ := hM19
          refine g_xret ?_
          refine g_widen (k := 1) (n := 6) (Nat.le_of_ble_eq_true rfl) (Nat.le_of_ble_eq_true rfl) ?_
          exact g_iret C hr d_Ct_place_74 ⟨by omega, by omega, e1.symm, ⟨np + 1, nl, nt, ns, ho, pa, la, ta, rk, ea, sa, pn, ca, ga, ra, to, oa, va_up gp np (some q17), gl, gt, gr, ge, gc, so, L, T, c0, okS_place hS0 (by omega) (okP_r3 (by omega)), ⟨((wd_up_n (ne_oo hx hho (by decide))).trans ((wd_up_n (ne_oa hx hpa)).trans ((wd_up_n (ne_new hq17 ((wd_up_n (ne_oo hx hto (by decide))).trans hx))).trans ((wd_up_n (ne_oo hx hto (by decide))).trans hx)))), wd_up_s, ((wd_up_n (Ne.symm (ne_oa hho hpa))).trans wd_up_s), ((wd_up_n (Ne.symm (ne_oa hho hla))).trans ((wd_up_n (ne_tt hla hpa hT32)).trans ((wd_up_n (ne_new hq17 ((wd_up_n (Ne.symm (ne_oa hto hla))).trans hla))).trans ((wd_up_n (Ne.symm (ne_oa hto hla))).trans hla)))), ((wd_up_n (Ne.symm (ne_oa hho hta))).trans ((wd_up_n (ne_tt hta hpa hT42)).trans ((wd_up_n (ne_new hq17 ((wd_up_n (Ne.symm (ne_oa hto hta))).trans hta))).trans ((wd_up_n (Ne.symm (ne_oa hto hta))).trans hta)))), ((wd_up_n (Ne.symm (ne_oa hho hrk))).trans ((wd_up_n (ne_tt hrk hpa hT42)).trans ((wd_up_n (ne_new hq17 ((wd_up_n (Ne.symm (ne_oa hto hrk))).trans hrk))).trans ((wd_up_n (Ne.symm (ne_oa hto hrk))).trans hrk)))), ((wd_up_n (Ne.symm (ne_oa hho hea))).trans ((wd_up_n (ne_tt hea hpa hT52)).trans ((wd_up_n (ne_new hq17 ((wd_up_n (Ne.symm (ne_oa hto hea))).trans hea))).trans ((wd_up_n (Ne.symm (ne_oa hto hea))).trans hea)))), ((wd_up_n (Ne.symm (ne_oa hho hsa))).trans ((wd_up_n (ne_ia hsa hpa)).trans ((wd_up_n (ne_new hq17 ((wd_up_n (Ne.symm (ne_oa hto hsa))).trans hsa))).trans ((wd_up_n (Ne.symm (ne_oa hto hsa))).trans hsa)))), ((wd_up_n (ne_oo hpn hho (by decide))).trans ((wd_up_n (ne_oa hpn hpa)).trans ((wd_up_n (ne_new hq17 ((wd_up_n (ne_oo hpn hto (by decide))).trans hpn))).trans ((wd_up_n (ne_oo hpn hto (by decide))).trans hpn)))), ((wd_up_n (Ne.symm (ne_oa hho hca))).trans ((wd_up_n (ne_tt hca hpa hT42)).trans ((wd_up_n (ne_new hq17 ((wd_up_n (Ne.symm (ne_oa hto hca))).trans hca))).trans ((wd_up_n (Ne.symm (ne_oa hto hca))).trans hca)))), ((wd_up_n (Ne.symm (ne_oa hho hga))).trans ((wd_up_n (ne_ia hga hpa)).trans ((wd_up_n (ne_new hq17 ((wd_up_n (Ne.symm (ne_oa hto hga))).trans hga))).trans ((wd_up_n (Ne.symm (ne_oa hto hga))).trans hga)))), ((wd_up_n (Ne.symm (ne_oa hho hra))).trans ((wd_up_n (ne_ia hra hpa)).trans ((wd_up_n (ne_new hq17 ((wd_up_n (Ne.symm (ne_oa hto hra))).trans hra))).trans ((wd_up_n (Ne.symm (ne_oa hto hra))).trans hra)))), ((wd_up_n (Ne.symm (ne_oa hho hoa))).trans ((wd_up_n (ne_tt hoa hpa hT42)).trans ((wd_up_n (ne_new hq17 ((wd_up_n (Ne.symm (ne_oa hto hoa))).trans hoa))).trans ((wd_up_n (Ne.symm (ne_oa hto hoa))).trans hoa))))⟩, ⟨n1, n2, n3, n4, n5, n6, n7, n8, n9⟩, ⟨hLb, hTb, hL63⟩, Pools_place hS0 (Pools_up (Pools_up (Pools_new (Pools_up hPo hto (show (6 : Nat) ≠ 1 ∧ (6 : Nat) ≠ 2 ∧ (6 : Nat) ≠ 3 ∧ (6 : Nat) ≠ 4 by decide)) hq17) ((wd_up_n (ne_new hq17 ((wd_up_n (Ne.symm (ne_oa hto hpa))).trans hpa))).trans ((wd_up_n (Ne.symm (ne_oa hto hpa))).trans hpa)) trivial) ((wd_up_n (ne_oa hho hpa)).trans ((wd_up_n (ne_new hq17 ((wd_up_n (ne_oo hho hto (by decide))).trans hho))).trans ((wd_up_n (ne_oo hho hto (by decide))).trans hho))) (show (0 : Nat) ≠ 1 ∧ (0 : Nat) ≠ 2 ∧ (0 : Nat) ≠ 3 ∧ (0 : Nat) ≠ 4 by decide)) ((wd_up_n (Ne.symm (ne_new hq17 ((wd_up_n (ne_oo hho hto (by decide))).trans hho)))).trans ((wd_up_n (Ne.symm (ne_new hq17 ((wd_up_n (Ne.symm (ne_oa hto hpa))).trans hpa)))).trans wd_up_s)), Or.inl ⟨rfl, ⟨rfl, rfl, rfl, rfl⟩, (s 0 0 6), ((wd_up_n (ne_oo hto hho (by decide))).trans ((wd_up_n (ne_oa hto hpa)).trans ((wd_up_n (ne_new hq17 wd_up_s)).trans wd_up_s)))⟩⟩⟩
        · exact g_throw C hl0 (cls := xIS) (text := "there are 30 places") (by decide +kernel) cl_Ct_86 ini_IS (by decide +kernel) at_IS1 at_IS2 at_IS3 hex d_Ct_place_40 d_Ct_place_43 d_Ct_place_44 d_Ct_place_46 d_Ct_place_49 ⟨Nat.le_of_ble_eq_true rfl, Nat.le_of_ble_eq_true rfl, Nat.le_of_ble_eq_true rfl, Nat.le_of_ble_eq_true rfl⟩ (Nat.le_of_ble_eq_true rfl) (Nat.le_of_ble_eq_true rfl) (Or.inr ⟨rfl, by omega, by omega⟩)
      · exact g_throw C hl0 (cls := xIA) (text := "no such floor or spot") (by decide +kernel) cl_Ct_76 ini_IA (by decide +kernel) at_IA1 at_IA2 at_IA3 hex d_Ct_place_18 d_Ct_place_21 d_Ct_place_22 d_Ct_place_24 d_Ct_place_27 ⟨Nat.le_of_ble_eq_true rfl, Nat.le_of_ble_eq_true rfl, Nat.le_of_ble_eq_true rfl, Nat.le_of_ble_eq_true rfl⟩ (Nat.le_of_ble_eq_true rfl) (Nat.le_of_ble_eq_true rfl) (Or.inl ⟨rfl, by omega⟩)
set_option maxHeartbeats 4000000 in
set_option maxRecDepth 100000 in
theorem ct_Ct_lift (l : Launch) (hl0 : l.stackTraces = false) (D : va_G) (tys : xK) (A : Nat → Prop) (M : Wm) (hT : tyOK tys) (x : Nat) (s : AS) (z1_ z2_ z3_ z4_ z5_ z6_ : Int) (hz1 : (-2147483648 ≤ z1_ ∧ z1_ < 2147483648)) (hz2 : (-2147483648 ≤ z2_ ∧ z2_ < 2147483648)) (hz3 : (-2147483648 ≤ z3_ ∧ z3_ < 2147483648)) (hz4 : (-2147483648 ≤ z4_ ∧ z4_ < 2147483648)) (hz5 : (-2147483648 ≤ z5_ ∧ z5_ < 2147483648)) (hz6 : (-2147483648 ≤ z6_ ∧ z6_ < 2147483648)) (hR : RC tys M x s) : xT l y_Ct_lift b_Ct_lift 7 (some .int) { frames := 6, cells := 1, slots := 6, locals := 90 } D tys A [.ref x, .int (iI z1_), .int (iI z2_), .int (iI z3_), .int (iI z4_), .int (iI z5_), .int (iI z6_)] M (qI D A (fun z M' => (((0 ≤ z1_ ∧ z1_ ≤ 100) ∧ (0 ≤ z2_ ∧ z2_ ≤ 100)) ∧ (0 ≤ z4_ ∧ z4_ ≤ 30) ∧ (0 ≤ z3_ ∧ z3_ ≤ z4_) ∧ (0 ≤ z5_ ∧ z5_ ≤ 100) ∧ (0 ≤ z6_ ∧ z6_ ≤ 100)) ∧ s 0 0 2 < 6 ∧ z = s 0 0 2 ∧ RC tys M' x (sLiftN s z1_ z2_ z3_ z4_ z5_ z6_))) (fun E => (E = xIA ∧ ¬ (((0 ≤ z1_ ∧ z1_ ≤ 100) ∧ (0 ≤ z2_ ∧ z2_ ≤ 100)) ∧ (0 ≤ z4_ ∧ z4_ ≤ 30) ∧ (0 ≤ z3_ ∧ z3_ ≤ z4_) ∧ (0 ≤ z5_ ∧ z5_ ≤ 100) ∧ (0 ≤ z6_ ∧ z6_ ≤ 100))) ∨ (E = xIS ∧ (((0 ≤ z1_ ∧ z1_ ≤ 100) ∧ (0 ≤ z2_ ∧ z2_ ≤ 100)) ∧ (0 ≤ z4_ ∧ z4_ ≤ 30) ∧ (0 ≤ z3_ ∧ z3_ ≤ z4_) ∧ (0 ≤ z5_ ∧ z5_ ≤ 100) ∧ (0 ≤ z6_ ∧ z6_ ≤ 100)) ∧ 6 ≤ s 0 0 2)) 1 6 := by
  refine xet_of (own := R_Ct) (lv := [(0, .ref x), (1, .int (iI z1_)), (2, .int (iI z2_)), (3, .int (iI z3_)), (4, .int (iI z4_)), (5, .int (iI z5_)), (6, .int (iI z6_))]) rfl (by decide) (Nat.le_of_ble_eq_true rfl) rfl ?_
  intro p_ e_ s_ m_ bl_ me_ c_ C hr hex
  have hT9 := hT
  obtain ⟨hT0, hT1, hT2, hT3, hT4, hT5, hT32, hT42, hT52, hT43, hT53, hT54⟩ := hT
  have hR0 := hR
  obtain ⟨np, nl, nt, ns, ho, pa, la, ta, rk, ea, sa, pn, ca, ga, ra, to, oa, gp, gl, gt, gr, ge, gc, so, L, T, c0, hS, ⟨hx, hho, hpa, hla, hta, hrk, hea, hsa, hpn, hca, hga, hra, hoa⟩, ⟨n1, n2, n3, n4, n5, n6, n7, n8, n9⟩, ⟨hLb, hTb, hL63⟩, hPo, hRT⟩ := hR
  have hS0 := hS
  obtain ⟨⟨e1, e2, e3, e4⟩, ⟨b1_, b2_, b3_, b4_⟩, b5_, okp, oklf, okt, oku, oksp, okg, oku6⟩ := hS
  have hps := Ps_of hS0 hPo
  have hH := Ho_of (tys := tys) hS0 hPo hho hla
  have hlok := hH.2.1
  rcases hRT with ⟨hw5, ⟨c7, c8, c9, c10⟩, d0, hto⟩ | ⟨w, gq, cn, dn, hw5, hwn, hge, c7, c8, hcd, h6, hlegs, c9, c10, hto, hso⟩
  · have hcase := hw5
    refine g_iload_n C d_Ct_lift_0 1 rfl ?_
    refine g_iload_n C d_Ct_lift_1 2 rfl ?_
    refine g_calliP C (run_S C [.int (iI z1_), .int (iI z2_)] k_Ct_72 (ct_Ct_isSpot l D tys A M z1_ z2_ (by omega)) ⟨rfl, rfl, Nat.le_of_ble_eq_true rfl, Nat.le_of_ble_eq_true rfl⟩ rfl rfl (Nat.le_of_ble_eq_true rfl) d_Ct_lift_2 ⟨Nat.le_of_ble_eq_true rfl, Nat.le_of_ble_eq_true rfl⟩) (fun z1 hz1 => ?_)
    refine g_if_eq C 29 d_Ct_lift_5 rfl (by omega) (fun c2 => ?_) (fun c2 => ?_)
    · exact g_throw C hl0 (cls := xIA) (text := "no such spot or floors") (by decide +kernel) cl_Ct_76 ini_IA (by decide +kernel) at_IA1 at_IA2 at_IA3 hex d_Ct_lift_29 d_Ct_lift_32 d_Ct_lift_33 d_Ct_lift_35 d_Ct_lift_38 ⟨Nat.le_of_ble_eq_true rfl, Nat.le_of_ble_eq_true rfl, Nat.le_of_ble_eq_true rfl, Nat.le_of_ble_eq_true rfl⟩ (Nat.le_of_ble_eq_true rfl) (Nat.le_of_ble_eq_true rfl) (Or.inl ⟨rfl, by omega⟩)
    · refine g_iload C d_Ct_lift_8 4 rfl ?_
      refine g_iconst C d_Ct_lift_10 ?_
      refine g_bipush C d_Ct_lift_11 (by decide) ?_
      refine g_calliP C (run_S C [.int (iI z4_), .int (iI 0), .int (iI 30)] k_Ct_68 (ct_Ct_within l D tys A M z4_ 0 30 (by omega)) ⟨rfl, rfl, Nat.le_of_ble_eq_true rfl, Nat.le_of_ble_eq_true rfl⟩ rfl rfl (Nat.le_of_ble_eq_true rfl) d_Ct_lift_13 ⟨Nat.le_of_ble_eq_true rfl, Nat.le_of_ble_eq_true rfl⟩) (fun z3 hz3 => ?_)
      refine g_if_eq C 29 d_Ct_lift_16 rfl (by omega) (fun c4 => ?_) (fun c4 => ?_)
      · exact g_throw C hl0 (cls := xIA) (text := "no such spot or floors") (by decide +kernel) cl_Ct_76 ini_IA (by decide +kernel) at_IA1 at_IA2 at_IA3 hex d_Ct_lift_29 d_Ct_lift_32 d_Ct_lift_33 d_Ct_lift_35 d_Ct_lift_38 ⟨Nat.le_of_ble_eq_true rfl, Nat.le_of_ble_eq_true rfl, Nat.le_of_ble_eq_true rfl, Nat.le_of_ble_eq_true rfl⟩ (Nat.le_of_ble_eq_true rfl) (Nat.le_of_ble_eq_true rfl) (Or.inl ⟨rfl, by omega⟩)
      · refine g_iload_n C d_Ct_lift_19 3 rfl ?_
        refine g_iconst C d_Ct_lift_20 ?_
        refine g_iload C d_Ct_lift_21 4 rfl ?_
        refine g_calliP C (run_S C [.int (iI z3_), .int (iI 0), .int (iI z4_)] k_Ct_68 (ct_Ct_within l D tys A M z3_ 0 z4_ (by omega)) ⟨rfl, rfl, Nat.le_of_ble_eq_true rfl, Nat.le_of_ble_eq_true rfl⟩ rfl rfl (Nat.le_of_ble_eq_true rfl) d_Ct_lift_23 ⟨Nat.le_of_ble_eq_true rfl, Nat.le_of_ble_eq_true rfl⟩) (fun z5 hz5 => ?_)
        refine g_if_ne C 39 d_Ct_lift_26 rfl (by omega) (fun c6 => ?_) (fun c6 => ?_)
        · refine g_iload C d_Ct_lift_39 5 rfl ?_
          refine g_iconst C d_Ct_lift_41 ?_
          refine g_bipush C d_Ct_lift_42 (by decide) ?_
          refine g_calliP C (run_S C [.int (iI z5_), .int (iI 0), .int (iI 100)] k_Ct_68 (ct_Ct_within l D tys A M z5_ 0 100 (by omega)) ⟨rfl, rfl, Nat.le_of_ble_eq_true rfl, Nat.le_of_ble_eq_true rfl⟩ rfl rfl (Nat.le_of_ble_eq_true rfl) d_Ct_lift_44 ⟨Nat.le_of_ble_eq_true rfl, Nat.le_of_ble_eq_true rfl⟩) (fun z7 hz7 => ?_)
          refine g_if_eq C 61 d_Ct_lift_47 rfl (by omega) (fun c8 => ?_) (fun c8 => ?_)
          · exact g_throw C hl0 (cls := xIA) (text := "no such wait or speed") (by decide +kernel) cl_Ct_76 ini_IA (by decide +kernel) at_IA1 at_IA2 at_IA3 hex d_Ct_lift_61 d_Ct_lift_64 d_Ct_lift_65 d_Ct_lift_67 d_Ct_lift_70 ⟨Nat.le_of_ble_eq_true rfl, Nat.le_of_ble_eq_true rfl, Nat.le_of_ble_eq_true rfl, Nat.le_of_ble_eq_true rfl⟩ (Nat.le_of_ble_eq_true rfl) (Nat.le_of_ble_eq_true rfl) (Or.inl ⟨rfl, by omega⟩)
          · refine g_iload C d_Ct_lift_50 6 rfl ?_
            refine g_iconst C d_Ct_lift_52 ?_
            refine g_bipush C d_Ct_lift_53 (by decide) ?_
            refine g_calliP C (run_S C [.int (iI z6_), .int (iI 0), .int (iI 100)] k_Ct_68 (ct_Ct_within l D tys A M z6_ 0 100 (by omega)) ⟨rfl, rfl, Nat.le_of_ble_eq_true rfl, Nat.le_of_ble_eq_true rfl⟩ rfl rfl (Nat.le_of_ble_eq_true rfl) d_Ct_lift_55 ⟨Nat.le_of_ble_eq_true rfl, Nat.le_of_ble_eq_true rfl⟩) (fun z9 hz9 => ?_)
            refine g_if_ne C 71 d_Ct_lift_58 rfl (by omega) (fun c10 => ?_) (fun c10 => ?_)
            · refine g_aload_n C d_Ct_lift_71 0 rfl ?_
              refine g_get C f_Ct_10 hx rfl d_Ct_lift_72 ?_
              refine g_get C f_Ct_107 hho rfl d_Ct_lift_75 ?_
              refine g_bipush C d_Ct_lift_78 (by decide) ?_
              refine g_icmp_lt C 93 d_Ct_lift_80 rfl (by omega) (fun c11 => ?_) (fun c11 => ?_)
              · refine g_aload_n C d_Ct_lift_93 0 rfl ?_
                refine g_get C f_Ct_45 hx rfl d_Ct_lift_94 ?_
                refine g_callv C (run_V C [] k_Ct_91 (ct_To_end l D tys A M to oa none d0 0 0 0 0 hto) hto ⟨rfl, rfl, Nat.le_of_ble_eq_true rfl, Nat.le_of_ble_eq_true rfl⟩ rfl rfl (Nat.le_of_ble_eq_true rfl) d_Ct_lift_97 ⟨Nat.le_of_ble_eq_true rfl, Nat.le_of_ble_eq_true rfl⟩) (fun M12 hM12 => ?_)
                subst hM12
                refine g_aload_n C d_Ct_lift_100 0 rfl ?_
                refine g_get C f_Ct_10 ((wd_up_n (ne_oo hx hto (by decide))).trans hx) rfl d_Ct_lift_101 ?_
                refine g_new C nw_Ct_112 ⟨Nat.le_of_ble_eq_true rfl, Nat.le_of_ble_eq_true rfl⟩ d_Ct_lift_104 (fun q13 hq13 => ?_)
                refine g_dup C rfl d_Ct_lift_107 ?_
                refine g_iload_n C d_Ct_lift_108 1 rfl ?_
                refine g_iload_n C d_Ct_lift_109 2 rfl ?_
                refine g_iload_n C d_Ct_lift_110 3 rfl ?_
                refine g_iload C d_Ct_lift_111 4 rfl ?_
                refine g_iload C d_Ct_lift_113 5 rfl ?_
                refine g_iload C d_Ct_lift_115 6 rfl ?_
                refine g_callv C (run_I C [.int (iI z1_), .int (iI z2_), .int (iI z3_), .int (iI z4_), .int (iI z5_), .int (iI z6_)] k_Ct_114 (ct_Li_init l D tys A (va_up (va_up M to (some (.inr (6, [.ref oa, .null, .int (iI d0), .int (iI 0), .int (iI 0), .int (iI 0), .int (iI 0)])))) q13 (some (.inr (1, [.int (iI 0), .int (iI 0), .int (iI 0), .int (iI 0), .int (iI 0), .int (iI 0)])))) q13 z1_ z2_ z3_ z4_ z5_ z6_ wd_up_s) ⟨rfl, rfl, Nat.le_of_ble_eq_true rfl, Nat.le_of_ble_eq_true rfl⟩ rfl rfl (Nat.le_of_ble_eq_true rfl) d_Ct_lift_117 ⟨Nat.le_of_ble_eq_true rfl, Nat.le_of_ble_eq_true rfl⟩) (fun M14 hM14 => ?_)
                subst hM14
                refine g_world (bx_uu _ _ _ _) ?_
                refine g_calli C (run_V C [.ref q13] k_Ct_117 (ct_Ho_addLift l D tys A (va_up (va_up M to (some (.inr (6, [.ref oa, .null, .int (iI d0), .int (iI 0), .int (iI 0), .int (iI 0), .int (iI 0)])))) q13 (some (.inr (1, [.int (iI z1_), .int (iI z2_), .int (iI z3_), .int (iI z4_), .int (iI z5_), .int (iI z6_)])))) hT9 ho pa la np nl q13 gl _ (by omega) ((wd_up_n (ne_new hq13 ((wd_up_n (ne_oo hho hto (by decide))).trans hho))).trans ((wd_up_n (ne_oo hho hto (by decide))).trans hho)) ((wd_up_n (ne_new hq13 ((wd_up_n (Ne.symm (ne_oa hto hla))).trans hla))).trans ((wd_up_n (Ne.symm (ne_oa hto hla))).trans hla)) wd_up_s) ((wd_up_n (ne_new hq13 ((wd_up_n (ne_oo hho hto (by decide))).trans hho))).trans ((wd_up_n (ne_oo hho hto (by decide))).trans hho)) ⟨rfl, rfl, Nat.le_of_ble_eq_true rfl, Nat.le_of_ble_eq_true rfl⟩ rfl rfl (Nat.le_of_ble_eq_true rfl) d_Ct_lift_120 ⟨Nat.le_of_ble_eq_true rfl, Nat.le_of_ble_eq_true rfl⟩) (fun z16 M15 hM15 => ?_)
                obtain ⟨rfl, rfl⟩ := hM15
                refine g_xret ?_
                refine g_widen (k := 1) (n := 6) (Nat.le_of_ble_eq_true rfl) (Nat.le_of_ble_eq_true rfl) ?_
                exact g_iret C hr d_Ct_lift_123 ⟨by omega, by omega, e2.symm, ⟨np, nl + 1, nt, ns, ho, pa, la, ta, rk, ea, sa, pn, ca, ga, ra, to, oa, gp, va_up gl nl (some q13), gt, gr, ge, gc, so, L, T, c0, okS_lift hS0 (by omega) (okL_r6 (by omega)), ⟨((wd_up_n (ne_oo hx hho (by decide))).trans ((wd_up_n (ne_oa hx hla)).trans ((wd_up_n (ne_new hq13 ((wd_up_n (ne_oo hx hto (by decide))).trans hx))).trans ((wd_up_n (ne_oo hx hto (by decide))).trans hx)))), wd_up_s, ((wd_up_n (Ne.symm (ne_oa hho hpa))).trans ((wd_up_n (Ne.symm (ne_tt hla hpa hT32))).trans ((wd_up_n (ne_new hq13 ((wd_up_n (Ne.symm (ne_oa hto hpa))).trans hpa))).trans ((wd_up_n (Ne.symm (ne_oa hto hpa))).trans hpa)))), ((wd_up_n (Ne.symm (ne_oa hho hla))).trans wd_up_s), ((wd_up_n (Ne.symm (ne_oa hho hta))).trans ((wd_up_n (ne_tt hta hla hT43)).trans ((wd_up_n (ne_new hq13 ((wd_up_n (Ne.symm (ne_oa hto hta))).trans hta))).trans ((wd_up_n (Ne.symm (ne_oa hto hta))).trans hta)))), ((wd_up_n (Ne.symm (ne_oa hho hrk))).trans ((wd_up_n (ne_tt hrk hla hT43)).trans ((wd_up_n (ne_new hq13 ((wd_up_n (Ne.symm (ne_oa hto hrk))).trans hrk))).trans ((wd_up_n (Ne.symm (ne_oa hto hrk))).trans hrk)))), ((wd_up_n (Ne.symm (ne_oa hho hea))).trans ((wd_up_n (ne_tt hea hla hT53)).trans ((wd_up_n (ne_new hq13 ((wd_up_n (Ne.symm (ne_oa hto hea))).trans hea))).trans ((wd_up_n (Ne.symm (ne_oa hto hea))).trans hea)))), ((wd_up_n (Ne.symm (ne_oa hho hsa))).trans ((wd_up_n (ne_ia hsa hla)).trans ((wd_up_n (ne_new hq13 ((wd_up_n (Ne.symm (ne_oa hto hsa))).trans hsa))).trans ((wd_up_n (Ne.symm (ne_oa hto hsa))).trans hsa)))), ((wd_up_n (ne_oo hpn hho (by decide))).trans ((wd_up_n (ne_oa hpn hla)).trans ((wd_up_n (ne_new hq13 ((wd_up_n (ne_oo hpn hto (by decide))).trans hpn))).trans ((wd_up_n (ne_oo hpn hto (by decide))).trans hpn)))), ((wd_up_n (Ne.symm (ne_oa hho hca))).trans ((wd_up_n (ne_tt hca hla hT43)).trans ((wd_up_n (ne_new hq13 ((wd_up_n (Ne.symm (ne_oa hto hca))).trans hca))).trans ((wd_up_n (Ne.symm (ne_oa hto hca))).trans hca)))), ((wd_up_n (Ne.symm (ne_oa hho hga))).trans ((wd_up_n (ne_ia hga hla)).trans ((wd_up_n (ne_new hq13 ((wd_up_n (Ne.symm (ne_oa hto hga))).trans hga))).trans ((wd_up_n (Ne.symm (ne_oa hto hga))).trans hga)))), ((wd_up_n (Ne.symm (ne_oa hho hra))).trans ((wd_up_n (ne_ia hra hla)).trans ((wd_up_n (ne_new hq13 ((wd_up_n (Ne.symm (ne_oa hto hra))).trans hra))).trans ((wd_up_n (Ne.symm (ne_oa hto hra))).trans hra)))), ((wd_up_n (Ne.symm (ne_oa hho hoa))).trans ((wd_up_n (ne_tt hoa hla hT43)).trans ((wd_up_n (ne_new hq13 ((wd_up_n (Ne.symm (ne_oa hto hoa))).trans hoa))).trans ((wd_up_n (Ne.symm (ne_oa hto hoa))).trans hoa))))⟩, ⟨n1, n2, n3, n4, n5, n6, n7, n8, n9⟩, ⟨hLb, hTb, hL63⟩, Pools_lift hS0 (Pools_up (Pools_up (Pools_new (Pools_up hPo hto (show (6 : Nat) ≠ 1 ∧ (6 : Nat) ≠ 2 ∧ (6 : Nat) ≠ 3 ∧ (6 : Nat) ≠ 4 by decide)) hq13) ((wd_up_n (ne_new hq13 ((wd_up_n (Ne.symm (ne_oa hto hla))).trans hla))).trans ((wd_up_n (Ne.symm (ne_oa hto hla))).trans hla)) trivial) ((wd_up_n (ne_oa hho hla)).trans ((wd_up_n (ne_new hq13 ((wd_up_n (ne_oo hho hto (by decide))).trans hho))).trans ((wd_up_n (ne_oo hho hto (by decide))).trans hho))) (show (0 : Nat) ≠ 1 ∧ (0 : Nat) ≠ 2 ∧ (0 : Nat) ≠ 3 ∧ (0 : Nat) ≠ 4 by decide)) ((wd_up_n (Ne.symm (ne_new hq13 ((wd_up_n (ne_oo hho hto (by decide))).trans hho)))).trans ((wd_up_n (Ne.symm (ne_new hq13 ((wd_up_n (Ne.symm (ne_oa hto hla))).trans hla)))).trans wd_up_s)), Or.inl ⟨rfl, ⟨rfl, rfl, rfl, rfl⟩, d0, ((wd_up_n (ne_oo hto hho (by decide))).trans ((wd_up_n (ne_oa hto hla)).trans ((wd_up_n (ne_new hq13 wd_up_s)).trans wd_up_s)))⟩⟩⟩
              · exact g_throw C hl0 (cls := xIS) (text := "there are 6 lifts") (by decide +kernel) cl_Ct_86 ini_IS (by decide +kernel) at_IS1 at_IS2 at_IS3 hex d_Ct_lift_83 d_Ct_lift_86 d_Ct_lift_87 d_Ct_lift_89 d_Ct_lift_92 ⟨Nat.le_of_ble_eq_true rfl, Nat.le_of_ble_eq_true rfl, Nat.le_of_ble_eq_true rfl, Nat.le_of_ble_eq_true rfl⟩ (Nat.le_of_ble_eq_true rfl) (Nat.le_of_ble_eq_true rfl) (Or.inr ⟨rfl, by omega, by omega⟩)
            · exact g_throw C hl0 (cls := xIA) (text := "no such wait or speed") (by decide +kernel) cl_Ct_76 ini_IA (by decide +kernel) at_IA1 at_IA2 at_IA3 hex d_Ct_lift_61 d_Ct_lift_64 d_Ct_lift_65 d_Ct_lift_67 d_Ct_lift_70 ⟨Nat.le_of_ble_eq_true rfl, Nat.le_of_ble_eq_true rfl, Nat.le_of_ble_eq_true rfl, Nat.le_of_ble_eq_true rfl⟩ (Nat.le_of_ble_eq_true rfl) (Nat.le_of_ble_eq_true rfl) (Or.inl ⟨rfl, by omega⟩)
        · exact g_throw C hl0 (cls := xIA) (text := "no such spot or floors") (by decide +kernel) cl_Ct_76 ini_IA (by decide +kernel) at_IA1 at_IA2 at_IA3 hex d_Ct_lift_29 d_Ct_lift_32 d_Ct_lift_33 d_Ct_lift_35 d_Ct_lift_38 ⟨Nat.le_of_ble_eq_true rfl, Nat.le_of_ble_eq_true rfl, Nat.le_of_ble_eq_true rfl, Nat.le_of_ble_eq_true rfl⟩ (Nat.le_of_ble_eq_true rfl) (Nat.le_of_ble_eq_true rfl) (Or.inl ⟨rfl, by omega⟩)
  · have hTA := To_of (tys := tys) hS0 hPo hwn hge hcd hto hoa hso
    obtain ⟨gq2, hgq, hphw, huw, hmw, hgq1, hhm⟩ := Pe_of hS0 hPo w hwn
    rw [hge] at hgq
    cases hgq
    refine g_iload_n C d_Ct_lift_0 1 rfl ?_
    refine g_iload_n C d_Ct_lift_1 2 rfl ?_
    refine g_calliP C (run_S C [.int (iI z1_), .int (iI z2_)] k_Ct_72 (ct_Ct_isSpot l D tys A M z1_ z2_ (by omega)) ⟨rfl, rfl, Nat.le_of_ble_eq_true rfl, Nat.le_of_ble_eq_true rfl⟩ rfl rfl (Nat.le_of_ble_eq_true rfl) d_Ct_lift_2 ⟨Nat.le_of_ble_eq_true rfl, Nat.le_of_ble_eq_true rfl⟩) (fun z17 hz17 => ?_)
    refine g_if_eq C 29 d_Ct_lift_5 rfl (by omega) (fun c18 => ?_) (fun c18 => ?_)
    · exact g_throw C hl0 (cls := xIA) (text := "no such spot or floors") (by decide +kernel) cl_Ct_76 ini_IA (by decide +kernel) at_IA1 at_IA2 at_IA3 hex d_Ct_lift_29 d_Ct_lift_32 d_Ct_lift_33 d_Ct_lift_35 d_Ct_lift_38 ⟨Nat.le_of_ble_eq_true rfl, Nat.le_of_ble_eq_true rfl, Nat.le_of_ble_eq_true rfl, Nat.le_of_ble_eq_true rfl⟩ (Nat.le_of_ble_eq_true rfl) (Nat.le_of_ble_eq_true rfl) (Or.inl ⟨rfl, by omega⟩)
    · refine g_iload C d_Ct_lift_8 4 rfl ?_
      refine g_iconst C d_Ct_lift_10 ?_
      refine g_bipush C d_Ct_lift_11 (by decide) ?_
      refine g_calliP C (run_S C [.int (iI z4_), .int (iI 0), .int (iI 30)] k_Ct_68 (ct_Ct_within l D tys A M z4_ 0 30 (by omega)) ⟨rfl, rfl, Nat.le_of_ble_eq_true rfl, Nat.le_of_ble_eq_true rfl⟩ rfl rfl (Nat.le_of_ble_eq_true rfl) d_Ct_lift_13 ⟨Nat.le_of_ble_eq_true rfl, Nat.le_of_ble_eq_true rfl⟩) (fun z19 hz19 => ?_)
      refine g_if_eq C 29 d_Ct_lift_16 rfl (by omega) (fun c20 => ?_) (fun c20 => ?_)
      · exact g_throw C hl0 (cls := xIA) (text := "no such spot or floors") (by decide +kernel) cl_Ct_76 ini_IA (by decide +kernel) at_IA1 at_IA2 at_IA3 hex d_Ct_lift_29 d_Ct_lift_32 d_Ct_lift_33 d_Ct_lift_35 d_Ct_lift_38 ⟨Nat.le_of_ble_eq_true rfl, Nat.le_of_ble_eq_true rfl, Nat.le_of_ble_eq_true rfl, Nat.le_of_ble_eq_true rfl⟩ (Nat.le_of_ble_eq_true rfl) (Nat.le_of_ble_eq_true rfl) (Or.inl ⟨rfl, by omega⟩)
      · refine g_iload_n C d_Ct_lift_19 3 rfl ?_
        refine g_iconst C d_Ct_lift_20 ?_
        refine g_iload C d_Ct_lift_21 4 rfl ?_
        refine g_calliP C (run_S C [.int (iI z3_), .int (iI 0), .int (iI z4_)] k_Ct_68 (ct_Ct_within l D tys A M z3_ 0 z4_ (by omega)) ⟨rfl, rfl, Nat.le_of_ble_eq_true rfl, Nat.le_of_ble_eq_true rfl⟩ rfl rfl (Nat.le_of_ble_eq_true rfl) d_Ct_lift_23 ⟨Nat.le_of_ble_eq_true rfl, Nat.le_of_ble_eq_true rfl⟩) (fun z21 hz21 => ?_)
        refine g_if_ne C 39 d_Ct_lift_26 rfl (by omega) (fun c22 => ?_) (fun c22 => ?_)
        · refine g_iload C d_Ct_lift_39 5 rfl ?_
          refine g_iconst C d_Ct_lift_41 ?_
          refine g_bipush C d_Ct_lift_42 (by decide) ?_
          refine g_calliP C (run_S C [.int (iI z5_), .int (iI 0), .int (iI 100)] k_Ct_68 (ct_Ct_within l D tys A M z5_ 0 100 (by omega)) ⟨rfl, rfl, Nat.le_of_ble_eq_true rfl, Nat.le_of_ble_eq_true rfl⟩ rfl rfl (Nat.le_of_ble_eq_true rfl) d_Ct_lift_44 ⟨Nat.le_of_ble_eq_true rfl, Nat.le_of_ble_eq_true rfl⟩) (fun z23 hz23 => ?_)
          refine g_if_eq C 61 d_Ct_lift_47 rfl (by omega) (fun c24 => ?_) (fun c24 => ?_)
          · exact g_throw C hl0 (cls := xIA) (text := "no such wait or speed") (by decide +kernel) cl_Ct_76 ini_IA (by decide +kernel) at_IA1 at_IA2 at_IA3 hex d_Ct_lift_61 d_Ct_lift_64 d_Ct_lift_65 d_Ct_lift_67 d_Ct_lift_70 ⟨Nat.le_of_ble_eq_true rfl, Nat.le_of_ble_eq_true rfl, Nat.le_of_ble_eq_true rfl, Nat.le_of_ble_eq_true rfl⟩ (Nat.le_of_ble_eq_true rfl) (Nat.le_of_ble_eq_true rfl) (Or.inl ⟨rfl, by omega⟩)
          · refine g_iload C d_Ct_lift_50 6 rfl ?_
            refine g_iconst C d_Ct_lift_52 ?_
            refine g_bipush C d_Ct_lift_53 (by decide) ?_
            refine g_calliP C (run_S C [.int (iI z6_), .int (iI 0), .int (iI 100)] k_Ct_68 (ct_Ct_within l D tys A M z6_ 0 100 (by omega)) ⟨rfl, rfl, Nat.le_of_ble_eq_true rfl, Nat.le_of_ble_eq_true rfl⟩ rfl rfl (Nat.le_of_ble_eq_true rfl) d_Ct_lift_55 ⟨Nat.le_of_ble_eq_true rfl, Nat.le_of_ble_eq_true rfl⟩) (fun z25 hz25 => ?_)
            refine g_if_ne C 71 d_Ct_lift_58 rfl (by omega) (fun c26 => ?_) (fun c26 => ?_)
            · refine g_aload_n C d_Ct_lift_71 0 rfl ?_
              refine g_get C f_Ct_10 hx rfl d_Ct_lift_72 ?_
              refine g_get C f_Ct_107 hho rfl d_Ct_lift_75 ?_
              refine g_bipush C d_Ct_lift_78 (by decide) ?_
              refine g_icmp_lt C 93 d_Ct_lift_80 rfl (by omega) (fun c27 => ?_) (fun c27 => ?_)
              · refine g_aload_n C d_Ct_lift_93 0 rfl ?_
                refine g_get C f_Ct_45 hx rfl d_Ct_lift_94 ?_
                refine g_callv C (run_V C [] k_Ct_91 (ct_To_end l D tys A M to oa (some gq) (s 0 0 6) ((cn : Int)) ((dn : Int)) (s 0 0 9) (s 0 0 10) hto) hto ⟨rfl, rfl, Nat.le_of_ble_eq_true rfl, Nat.le_of_ble_eq_true rfl⟩ rfl rfl (Nat.le_of_ble_eq_true rfl) d_Ct_lift_97 ⟨Nat.le_of_ble_eq_true rfl, Nat.le_of_ble_eq_true rfl⟩) (fun M28 hM28 => ?_)
                subst hM28
                refine g_aload_n C d_Ct_lift_100 0 rfl ?_
                refine g_get C f_Ct_10 ((wd_up_n (ne_oo hx hto (by decide))).trans hx) rfl d_Ct_lift_101 ?_
                refine g_new C nw_Ct_112 ⟨Nat.le_of_ble_eq_true rfl, Nat.le_of_ble_eq_true rfl⟩ d_Ct_lift_104 (fun q29 hq29 => ?_)
                refine g_dup C rfl d_Ct_lift_107 ?_
                refine g_iload_n C d_Ct_lift_108 1 rfl ?_
                refine g_iload_n C d_Ct_lift_109 2 rfl ?_
                refine g_iload_n C d_Ct_lift_110 3 rfl ?_
                refine g_iload C d_Ct_lift_111 4 rfl ?_
                refine g_iload C d_Ct_lift_113 5 rfl ?_
                refine g_iload C d_Ct_lift_115 6 rfl ?_
                refine g_callv C (run_I C [.int (iI z1_), .int (iI z2_), .int (iI z3_), .int (iI z4_), .int (iI z5_), .int (iI z6_)] k_Ct_114 (ct_Li_init l D tys A (va_up (va_up M to (some (.inr (6, [.ref oa, .null, .int (iI (s 0 0 6)), .int (iI 0), .int (iI 0), .int (iI 0), .int (iI 0)])))) q29 (some (.inr (1, [.int (iI 0), .int (iI 0), .int (iI 0), .int (iI 0), .int (iI 0), .int (iI 0)])))) q29 z1_ z2_ z3_ z4_ z5_ z6_ wd_up_s) ⟨rfl, rfl, Nat.le_of_ble_eq_true rfl, Nat.le_of_ble_eq_true rfl⟩ rfl rfl (Nat.le_of_ble_eq_true rfl) d_Ct_lift_117 ⟨Nat.le_of_ble_eq_true rfl, Nat.le_of_ble_eq_true rfl⟩) (fun M30 hM30 => ?_)
                subst hM30
                refine g_world (bx_uu _ _ _ _) ?_
                refine g_calli C (run_V C [.ref q29] k_Ct_117 (ct_Ho_addLift l D tys A (va_up (va_up M to (some (.inr (6, [.ref oa, .null, .int (iI (s 0 0 6)), .int (iI 0), .int (iI 0), .int (iI 0), .int (iI 0)])))) q29 (some (.inr (1, [.int (iI z1_), .int (iI z2_), .int (iI z3_), .int (iI z4_), .int (iI z5_), .int (iI z6_)])))) hT9 ho pa la np nl q29 gl _ (by omega) ((wd_up_n (ne_new hq29 ((wd_up_n (ne_oo hho hto (by decide))).trans hho))).trans ((wd_up_n (ne_oo hho hto (by decide))).trans hho)) ((wd_up_n (ne_new hq29 ((wd_up_n (Ne.symm (ne_oa hto hla))).trans hla))).trans ((wd_up_n (Ne.symm (ne_oa hto hla))).trans hla)) wd_up_s) ((wd_up_n (ne_new hq29 ((wd_up_n (ne_oo hho hto (by decide))).trans hho))).trans ((wd_up_n (ne_oo hho hto (by decide))).trans hho)) ⟨rfl, rfl, Nat.le_of_ble_eq_true rfl, Nat.le_of_ble_eq_true rfl⟩ rfl rfl (Nat.le_of_ble_eq_true rfl) d_Ct_lift_120 ⟨Nat.le_of_ble_eq_true rfl, Nat.le_of_ble_eq_true rfl⟩) (fun z32 M31 hM31 => ?_)
                obtain ⟨rfl, rfl⟩ := hM31
                refine g_xret ?_
                refine g_widen (k := 1) (n := 6) (Nat.le_of_ble_eq_true rfl) (Nat.le_of_ble_eq_true rfl) ?_
                exact g_iret C hr d_Ct_lift_123 ⟨by omega, by omega, e2.symm, ⟨np, nl + 1, nt, ns, ho, pa, la, ta, rk, ea, sa, pn, ca, ga, ra, to, oa, gp, va_up gl nl (some q29), gt, gr, ge, gc, so, L, T, c0, okS_lift hS0 (by omega) (okL_r6 (by omega)), ⟨((wd_up_n (ne_oo hx hho (by decide))).trans ((wd_up_n (ne_oa hx hla)).trans ((wd_up_n (ne_new hq29 ((wd_up_n (ne_oo hx hto (by decide))).trans hx))).trans ((wd_up_n (ne_oo hx hto (by decide))).trans hx)))), wd_up_s, ((wd_up_n (Ne.symm (ne_oa hho hpa))).trans ((wd_up_n (Ne.symm (ne_tt hla hpa hT32))).trans ((wd_up_n (ne_new hq29 ((wd_up_n (Ne.symm (ne_oa hto hpa))).trans hpa))).trans ((wd_up_n (Ne.symm (ne_oa hto hpa))).trans hpa)))), ((wd_up_n (Ne.symm (ne_oa hho hla))).trans wd_up_s), ((wd_up_n (Ne.symm (ne_oa hho hta))).trans ((wd_up_n (ne_tt hta hla hT43)).trans ((wd_up_n (ne_new hq29 ((wd_up_n (Ne.symm (ne_oa hto hta))).trans hta))).trans ((wd_up_n (Ne.symm (ne_oa hto hta))).trans hta)))), ((wd_up_n (Ne.symm (ne_oa hho hrk))).trans ((wd_up_n (ne_tt hrk hla hT43)).trans ((wd_up_n (ne_new hq29 ((wd_up_n (Ne.symm (ne_oa hto hrk))).trans hrk))).trans ((wd_up_n (Ne.symm (ne_oa hto hrk))).trans hrk)))), ((wd_up_n (Ne.symm (ne_oa hho hea))).trans ((wd_up_n (ne_tt hea hla hT53)).trans ((wd_up_n (ne_new hq29 ((wd_up_n (Ne.symm (ne_oa hto hea))).trans hea))).trans ((wd_up_n (Ne.symm (ne_oa hto hea))).trans hea)))), ((wd_up_n (Ne.symm (ne_oa hho hsa))).trans ((wd_up_n (ne_ia hsa hla)).trans ((wd_up_n (ne_new hq29 ((wd_up_n (Ne.symm (ne_oa hto hsa))).trans hsa))).trans ((wd_up_n (Ne.symm (ne_oa hto hsa))).trans hsa)))), ((wd_up_n (ne_oo hpn hho (by decide))).trans ((wd_up_n (ne_oa hpn hla)).trans ((wd_up_n (ne_new hq29 ((wd_up_n (ne_oo hpn hto (by decide))).trans hpn))).trans ((wd_up_n (ne_oo hpn hto (by decide))).trans hpn)))), ((wd_up_n (Ne.symm (ne_oa hho hca))).trans ((wd_up_n (ne_tt hca hla hT43)).trans ((wd_up_n (ne_new hq29 ((wd_up_n (Ne.symm (ne_oa hto hca))).trans hca))).trans ((wd_up_n (Ne.symm (ne_oa hto hca))).trans hca)))), ((wd_up_n (Ne.symm (ne_oa hho hga))).trans ((wd_up_n (ne_ia hga hla)).trans ((wd_up_n (ne_new hq29 ((wd_up_n (Ne.symm (ne_oa hto hga))).trans hga))).trans ((wd_up_n (Ne.symm (ne_oa hto hga))).trans hga)))), ((wd_up_n (Ne.symm (ne_oa hho hra))).trans ((wd_up_n (ne_ia hra hla)).trans ((wd_up_n (ne_new hq29 ((wd_up_n (Ne.symm (ne_oa hto hra))).trans hra))).trans ((wd_up_n (Ne.symm (ne_oa hto hra))).trans hra)))), ((wd_up_n (Ne.symm (ne_oa hho hoa))).trans ((wd_up_n (ne_tt hoa hla hT43)).trans ((wd_up_n (ne_new hq29 ((wd_up_n (Ne.symm (ne_oa hto hoa))).trans hoa))).trans ((wd_up_n (Ne.symm (ne_oa hto hoa))).trans hoa))))⟩, ⟨n1, n2, n3, n4, n5, n6, n7, n8, n9⟩, ⟨hLb, hTb, hL63⟩, Pools_lift hS0 (Pools_up (Pools_up (Pools_new (Pools_up hPo hto (show (6 : Nat) ≠ 1 ∧ (6 : Nat) ≠ 2 ∧ (6 : Nat) ≠ 3 ∧ (6 : Nat) ≠ 4 by decide)) hq29) ((wd_up_n (ne_new hq29 ((wd_up_n (Ne.symm (ne_oa hto hla))).trans hla))).trans ((wd_up_n (Ne.symm (ne_oa hto hla))).trans hla)) trivial) ((wd_up_n (ne_oa hho hla)).trans ((wd_up_n (ne_new hq29 ((wd_up_n (ne_oo hho hto (by decide))).trans hho))).trans ((wd_up_n (ne_oo hho hto (by decide))).trans hho))) (show (0 : Nat) ≠ 1 ∧ (0 : Nat) ≠ 2 ∧ (0 : Nat) ≠ 3 ∧ (0 : Nat) ≠ 4 by decide)) ((wd_up_n (Ne.symm (ne_new hq29 ((wd_up_n (ne_oo hho hto (by decide))).trans hho)))).trans ((wd_up_n (Ne.symm (ne_new hq29 ((wd_up_n (Ne.symm (ne_oa hto hla))).trans hla)))).trans wd_up_s)), Or.inl ⟨rfl, ⟨rfl, rfl, rfl, rfl⟩, (s 0 0 6), ((wd_up_n (ne_oo hto hho (by decide))).trans ((wd_up_n (ne_oa hto hla)).trans ((wd_up_n (ne_new hq29 wd_up_s)).trans wd_up_s)))⟩⟩⟩
              · exact g_throw C hl0 (cls := xIS) (text := "there are 6 lifts") (by decide +kernel) cl_Ct_86 ini_IS (by decide +kernel) at_IS1 at_IS2 at_IS3 hex d_Ct_lift_83 d_Ct_lift_86 d_Ct_lift_87 d_Ct_lift_89 d_Ct_lift_92 ⟨Nat.le_of_ble_eq_true rfl, Nat.le_of_ble_eq_true rfl, Nat.le_of_ble_eq_true rfl, Nat.le_of_ble_eq_true rfl⟩ (Nat.le_of_ble_eq_true rfl) (Nat.le_of_ble_eq_true rfl) (Or.inr ⟨rfl, by omega, by omega⟩)
            · exact g_throw C hl0 (cls := xIA) (text := "no such wait or speed") (by decide +kernel) cl_Ct_76 ini_IA (by decide +kernel) at_IA1 at_IA2 at_IA3 hex d_Ct_lift_61 d_Ct_lift_64 d_Ct_lift_65 d_Ct_lift_67 d_Ct_lift_70 ⟨Nat.le_of_ble_eq_true rfl, Nat.le_of_ble_eq_true rfl, Nat.le_of_ble_eq_true rfl, Nat.le_of_ble_eq_true rfl⟩ (Nat.le_of_ble_eq_true rfl) (Nat.le_of_ble_eq_true rfl) (Or.inl ⟨rfl, by omega⟩)
        · exact g_throw C hl0 (cls := xIA) (text := "no such spot or floors") (by decide +kernel) cl_Ct_76 ini_IA (by decide +kernel) at_IA1 at_IA2 at_IA3 hex d_Ct_lift_29 d_Ct_lift_32 d_Ct_lift_33 d_Ct_lift_35 d_Ct_lift_38 ⟨Nat.le_of_ble_eq_true rfl, Nat.le_of_ble_eq_true rfl, Nat.le_of_ble_eq_true rfl, Nat.le_of_ble_eq_true rfl⟩ (Nat.le_of_ble_eq_true rfl) (Nat.le_of_ble_eq_true rfl) (Or.inl ⟨rfl, by omega⟩)
set_option maxHeartbeats 4000000 in
set_option maxRecDepth 100000 in
theorem ct_Ct_part (l : Launch) (hl0 : l.stackTraces = false) (D : va_G) (tys : xK) (A : Nat → Prop) (M : Wm) (hT : tyOK tys) (x : Nat) (s : AS) (z1_ z2_ z3_ z4_ z5_ z6_ : Int) (hz1 : (-2147483648 ≤ z1_ ∧ z1_ < 2147483648)) (hz2 : (-2147483648 ≤ z2_ ∧ z2_ < 2147483648)) (hz3 : (-2147483648 ≤ z3_ ∧ z3_ < 2147483648)) (hz4 : (-2147483648 ≤ z4_ ∧ z4_ < 2147483648)) (hz5 : (-2147483648 ≤ z5_ ∧ z5_ < 2147483648)) (hz6 : (-2147483648 ≤ z6_ ∧ z6_ < 2147483648)) (hR : RC tys M x s) : xT l y_Ct_part b_Ct_part 8 (some .int) { frames := 6, cells := 1, slots := 11, locals := 90 } D tys A [.ref x, .int (iI z1_), .int (iI z2_), .int (iI z3_), .int (iI z4_), .int (iI z5_), .int (iI z6_)] M (qI D A (fun z M' => ((0 ≤ z1_ ∧ z1_ < s 0 0 1) ∧ (0 ≤ z2_ ∧ z2_ ≤ 7) ∧ (0 ≤ z3_ ∧ z3_ ≤ 4) ∧ (1 ≤ z4_ ∧ z4_ ≤ 400) ∧ (1 ≤ z5_ ∧ z5_ ≤ 10000) ∧ (1 ≤ z6_ ∧ z6_ ≤ 7200)) ∧ s 0 0 3 < 40 ∧ z = s 0 0 3 ∧ RC tys M' x (sPart s z1_ z2_ z3_ z4_ z5_ z6_))) (fun E => (E = xIA ∧ ¬ ((0 ≤ z1_ ∧ z1_ < s 0 0 1) ∧ (0 ≤ z2_ ∧ z2_ ≤ 7) ∧ (0 ≤ z3_ ∧ z3_ ≤ 4) ∧ (1 ≤ z4_ ∧ z4_ ≤ 400) ∧ (1 ≤ z5_ ∧ z5_ ≤ 10000) ∧ (1 ≤ z6_ ∧ z6_ ≤ 7200))) ∨ (E = xIS ∧ ((0 ≤ z1_ ∧ z1_ < s 0 0 1) ∧ (0 ≤ z2_ ∧ z2_ ≤ 7) ∧ (0 ≤ z3_ ∧ z3_ ≤ 4) ∧ (1 ≤ z4_ ∧ z4_ ≤ 400) ∧ (1 ≤ z5_ ∧ z5_ ≤ 10000) ∧ (1 ≤ z6_ ∧ z6_ ≤ 7200)) ∧ 40 ≤ s 0 0 3)) 1 11 := by
  refine xet_of (own := R_Ct) (lv := [(0, .ref x), (1, .int (iI z1_)), (2, .int (iI z2_)), (3, .int (iI z3_)), (4, .int (iI z4_)), (5, .int (iI z5_)), (6, .int (iI z6_))]) rfl (by decide) (Nat.le_of_ble_eq_true rfl) rfl ?_
  intro p_ e_ s_ m_ bl_ me_ c_ C hr hex
  have hT9 := hT
  obtain ⟨hT0, hT1, hT2, hT3, hT4, hT5, hT32, hT42, hT52, hT43, hT53, hT54⟩ := hT
  have hR0 := hR
  obtain ⟨np, nl, nt, ns, ho, pa, la, ta, rk, ea, sa, pn, ca, ga, ra, to, oa, gp, gl, gt, gr, ge, gc, so, L, T, c0, hS, ⟨hx, hho, hpa, hla, hta, hrk, hea, hsa, hpn, hca, hga, hra, hoa⟩, ⟨n1, n2, n3, n4, n5, n6, n7, n8, n9⟩, ⟨hLb, hTb, hL63⟩, hPo, hRT⟩ := hR
  have hS0 := hS
  obtain ⟨⟨e1, e2, e3, e4⟩, ⟨b1_, b2_, b3_, b4_⟩, b5_, okp, oklf, okt, oku, oksp, okg, oku6⟩ := hS
  have hps := Ps_of hS0 hPo
  have hH := Ho_of (tys := tys) hS0 hPo hho hla
  have hlok := hH.2.1
  obtain ⟨fto, hto⟩ := RT_to hRT
  refine g_aload_n C d_Ct_part_0 0 rfl ?_
  refine g_get C f_Ct_10 hx rfl d_Ct_part_1 ?_
  refine g_iload_n C d_Ct_part_4 1 rfl ?_
  refine g_calliP C (run_V C [.int (iI z1_)] k_Ct_121 (ct_Ho_hasPlace l D tys A M ho pa la np nl z1_ (by omega) b1_ hho) hho ⟨rfl, rfl, Nat.le_of_ble_eq_true rfl, Nat.le_of_ble_eq_true rfl⟩ rfl rfl (Nat.le_of_ble_eq_true rfl) d_Ct_part_5 ⟨Nat.le_of_ble_eq_true rfl, Nat.le_of_ble_eq_true rfl⟩) (fun z1 hz1 => ?_)
  refine g_if_eq C 28 d_Ct_part_8 rfl (by omega) (fun c2 => ?_) (fun c2 => ?_)
  · exact g_throw C hl0 (cls := xIA) (text := "no such place, skill or kind") (by decide +kernel) cl_Ct_76 ini_IA (by decide +kernel) at_IA1 at_IA2 at_IA3 hex d_Ct_part_28 d_Ct_part_31 d_Ct_part_32 d_Ct_part_34 d_Ct_part_37 ⟨Nat.le_of_ble_eq_true rfl, Nat.le_of_ble_eq_true rfl, Nat.le_of_ble_eq_true rfl, Nat.le_of_ble_eq_true rfl⟩ (Nat.le_of_ble_eq_true rfl) (Nat.le_of_ble_eq_true rfl) (Or.inl ⟨rfl, by omega⟩)
  · refine g_iload_n C d_Ct_part_11 2 rfl ?_
    refine g_iconst C d_Ct_part_12 ?_
    refine g_bipush C d_Ct_part_13 (by decide) ?_
    refine g_calliP C (run_S C [.int (iI z2_), .int (iI 0), .int (iI 7)] k_Ct_68 (ct_Ct_within l D tys A M z2_ 0 7 (by omega)) ⟨rfl, rfl, Nat.le_of_ble_eq_true rfl, Nat.le_of_ble_eq_true rfl⟩ rfl rfl (Nat.le_of_ble_eq_true rfl) d_Ct_part_15 ⟨Nat.le_of_ble_eq_true rfl, Nat.le_of_ble_eq_true rfl⟩) (fun z3 hz3 => ?_)
    refine g_if_eq C 28 d_Ct_part_18 rfl (by omega) (fun c4 => ?_) (fun c4 => ?_)
    · exact g_throw C hl0 (cls := xIA) (text := "no such place, skill or kind") (by decide +kernel) cl_Ct_76 ini_IA (by decide +kernel) at_IA1 at_IA2 at_IA3 hex d_Ct_part_28 d_Ct_part_31 d_Ct_part_32 d_Ct_part_34 d_Ct_part_37 ⟨Nat.le_of_ble_eq_true rfl, Nat.le_of_ble_eq_true rfl, Nat.le_of_ble_eq_true rfl, Nat.le_of_ble_eq_true rfl⟩ (Nat.le_of_ble_eq_true rfl) (Nat.le_of_ble_eq_true rfl) (Or.inl ⟨rfl, by omega⟩)
    · refine g_iload_n C d_Ct_part_21 3 rfl ?_
      refine g_calliP C (run_S C [.int (iI z3_)] k_Ct_125 (ct_Ct_isKind l D tys A M z3_ (by omega)) ⟨rfl, rfl, Nat.le_of_ble_eq_true rfl, Nat.le_of_ble_eq_true rfl⟩ rfl rfl (Nat.le_of_ble_eq_true rfl) d_Ct_part_22 ⟨Nat.le_of_ble_eq_true rfl, Nat.le_of_ble_eq_true rfl⟩) (fun z5 hz5 => ?_)
      refine g_if_ne C 38 d_Ct_part_25 rfl (by omega) (fun c6 => ?_) (fun c6 => ?_)
      · refine g_iload C d_Ct_part_38 4 rfl ?_
        refine g_iconst C d_Ct_part_40 ?_
        refine g_sipush C d_Ct_part_41 (by decide) ?_
        refine g_calliP C (run_S C [.int (iI z4_), .int (iI 1), .int (iI 400)] k_Ct_68 (ct_Ct_within l D tys A M z4_ 1 400 (by omega)) ⟨rfl, rfl, Nat.le_of_ble_eq_true rfl, Nat.le_of_ble_eq_true rfl⟩ rfl rfl (Nat.le_of_ble_eq_true rfl) d_Ct_part_44 ⟨Nat.le_of_ble_eq_true rfl, Nat.le_of_ble_eq_true rfl⟩) (fun z7 hz7 => ?_)
        refine g_if_eq C 74 d_Ct_part_47 rfl (by omega) (fun c8 => ?_) (fun c8 => ?_)
        · exact g_throw C hl0 (cls := xIA) (text := "no such days, hours or work") (by decide +kernel) cl_Ct_76 ini_IA (by decide +kernel) at_IA1 at_IA2 at_IA3 hex d_Ct_part_74 d_Ct_part_77 d_Ct_part_78 d_Ct_part_80 d_Ct_part_83 ⟨Nat.le_of_ble_eq_true rfl, Nat.le_of_ble_eq_true rfl, Nat.le_of_ble_eq_true rfl, Nat.le_of_ble_eq_true rfl⟩ (Nat.le_of_ble_eq_true rfl) (Nat.le_of_ble_eq_true rfl) (Or.inl ⟨rfl, by omega⟩)
        · refine g_iload C d_Ct_part_50 5 rfl ?_
          refine g_iconst C d_Ct_part_52 ?_
          refine g_sipush C d_Ct_part_53 (by decide) ?_
          refine g_calliP C (run_S C [.int (iI z5_), .int (iI 1), .int (iI 10000)] k_Ct_68 (ct_Ct_within l D tys A M z5_ 1 10000 (by omega)) ⟨rfl, rfl, Nat.le_of_ble_eq_true rfl, Nat.le_of_ble_eq_true rfl⟩ rfl rfl (Nat.le_of_ble_eq_true rfl) d_Ct_part_56 ⟨Nat.le_of_ble_eq_true rfl, Nat.le_of_ble_eq_true rfl⟩) (fun z9 hz9 => ?_)
          refine g_if_eq C 74 d_Ct_part_59 rfl (by omega) (fun c10 => ?_) (fun c10 => ?_)
          · exact g_throw C hl0 (cls := xIA) (text := "no such days, hours or work") (by decide +kernel) cl_Ct_76 ini_IA (by decide +kernel) at_IA1 at_IA2 at_IA3 hex d_Ct_part_74 d_Ct_part_77 d_Ct_part_78 d_Ct_part_80 d_Ct_part_83 ⟨Nat.le_of_ble_eq_true rfl, Nat.le_of_ble_eq_true rfl, Nat.le_of_ble_eq_true rfl, Nat.le_of_ble_eq_true rfl⟩ (Nat.le_of_ble_eq_true rfl) (Nat.le_of_ble_eq_true rfl) (Or.inl ⟨rfl, by omega⟩)
          · refine g_iload C d_Ct_part_62 6 rfl ?_
            refine g_iconst C d_Ct_part_64 ?_
            refine g_sipush C d_Ct_part_65 (by decide) ?_
            refine g_calliP C (run_S C [.int (iI z6_), .int (iI 1), .int (iI 7200)] k_Ct_68 (ct_Ct_within l D tys A M z6_ 1 7200 (by omega)) ⟨rfl, rfl, Nat.le_of_ble_eq_true rfl, Nat.le_of_ble_eq_true rfl⟩ rfl rfl (Nat.le_of_ble_eq_true rfl) d_Ct_part_68 ⟨Nat.le_of_ble_eq_true rfl, Nat.le_of_ble_eq_true rfl⟩) (fun z11 hz11 => ?_)
            refine g_if_ne C 84 d_Ct_part_71 rfl (by omega) (fun c12 => ?_) (fun c12 => ?_)
            · refine g_aload_n C d_Ct_part_84 0 rfl ?_
              refine g_get C f_Ct_49 hx rfl d_Ct_part_85 ?_
              refine g_bipush C d_Ct_part_88 (by decide) ?_
              refine g_icmp_lt C 103 d_Ct_part_90 rfl (by omega) (fun c13 => ?_) (fun c13 => ?_)
              · obtain ⟨i, rfl⟩ : ∃ i : Nat, z1_ = (i : Int) := ⟨z1_.toNat, by omega⟩
                obtain ⟨qp, hqsp, hqp⟩ := hPo.1 i (by omega)
                have hqop := okp i (by omega)
                refine g_aload_n C d_Ct_part_103 0 rfl ?_
                refine g_get C f_Ct_49 hx rfl d_Ct_part_104 ?_
                refine g_istore (lv' := [(7, .int (iI ((nt : Int)))), (0, .ref x), (1, .int (iI ((i : Int)))), (2, .int (iI z2_)), (3, .int (iI z3_)), (4, .int (iI z4_)), (5, .int (iI z5_)), (6, .int (iI z6_))]) C d_Ct_part_107 (by decide) rfl ?_
                refine g_aload_n C d_Ct_part_109 1 rfl ?_
                refine g_get C f_Ct_18 hx rfl d_Ct_part_110 ?_
                refine g_iload C d_Ct_part_113 0 rfl ?_
                refine g_new C nw_Ct_16 ⟨Nat.le_of_ble_eq_true rfl, Nat.le_of_ble_eq_true rfl⟩ d_Ct_part_115 (fun q14 hq14 => ?_)
                refine g_dup C rfl d_Ct_part_118 ?_
                refine g_iload C d_Ct_part_119 0 rfl ?_
                refine g_aload_n C d_Ct_part_121 1 rfl ?_
                refine g_get C f_Ct_10 ((wd_up_n (ne_new hq14 hx)).trans hx) rfl d_Ct_part_122 ?_
                refine g_get C f_Ct_134 ((wd_up_n (ne_new hq14 hho)).trans hho) rfl d_Ct_part_125 ?_
                refine g_iload_n C d_Ct_part_128 2 rfl ?_
                refine g_aald C 2 hT2 ((wd_up_n (ne_new hq14 hpa)).trans hpa) (by omega) (by rw [show ((i : Nat) : Int).toNat = i by omega]; exact hqsp) d_Ct_part_129 ?_
                refine g_iload_n C d_Ct_part_130 3 rfl ?_
                refine g_iload_n C d_Ct_part_131 4 rfl ?_
                refine g_iload C d_Ct_part_132 5 rfl ?_
                refine g_iload C d_Ct_part_134 6 rfl ?_
                refine g_iload C d_Ct_part_136 7 rfl ?_
                refine g_callv C (run_I C [.int (iI ((nt : Int))), .ref qp, .int (iI z2_), .int (iI z3_), .int (iI z4_), .int (iI z5_), .int (iI z6_)] k_Ct_138 (ct_Pt_init l D tys A (va_up M q14 (some (.inr (2, [.int (iI 0), .null, .int (iI 0), .int (iI 0), .int (iI 0), .int (iI 0), .int (iI 0), .int (iI 0), .int (iI 0), .int (iI 0), .int (iI 0)])))) q14 ((nt : Int)) qp z2_ z3_ z4_ z5_ z6_ wd_up_s) ⟨rfl, rfl, Nat.le_of_ble_eq_true rfl, Nat.le_of_ble_eq_true rfl⟩ rfl rfl (Nat.le_of_ble_eq_true rfl) d_Ct_part_138 ⟨Nat.le_of_ble_eq_true rfl, Nat.le_of_ble_eq_true rfl⟩) (fun M15 hM15 => ?_)
                subst hM15
                refine g_world (bx_uu _ _ _ _) ?_
                refine g_aast C 4 hT4 rfl ((wd_up_n (ne_new hq14 hta)).trans hta) wd_up_s (by omega) d_Ct_part_141 ?_
                refine g_aload_n C d_Ct_part_142 1 rfl ?_
                refine g_dup C rfl d_Ct_part_143 ?_
                refine g_get C f_Ct_49 ((wd_up_n (ne_oa hx hta)).trans ((wd_up_n (ne_new hq14 hx)).trans hx)) rfl d_Ct_part_144 ?_
                refine g_iconst C d_Ct_part_147 ?_
                refine g_iadd C d_Ct_part_148 ?_
                refine g_put C p_Ct_49 ((wd_up_n (ne_oa hx hta)).trans ((wd_up_n (ne_new hq14 hx)).trans hx)) rfl rfl (Nat.le_of_ble_eq_true rfl) (fs' := [.int (iI (s 0 0 0)), .ref ho, .ref ta, .ref rk, .ref ea, .ref sa, .ref pn, .ref to, .int (iI (((nt : Int)) + 1)), .int (iI ((ns : Int)))]) rfl d_Ct_part_149 ?_
                refine g_iload C d_Ct_part_152 0 rfl ?_
                refine g_xret ?_
                refine g_widen (k := 1) (n := 11) (Nat.le_of_ble_eq_true rfl) (Nat.le_of_ble_eq_true rfl) ?_
                exact g_iret C hr d_Ct_part_154 ⟨by omega, by omega, e3.symm, ⟨np, nl, nt + 1, ns, ho, pa, la, ta, rk, ea, sa, pn, ca, ga, ra, to, oa, gp, gl, va_up gt nt (some q14), gr, ge, gc, so, L, T, c0, okS_part hS0 (by omega) (by omega) (okT_r10 (by omega)), ⟨wd_up_s, ((wd_up_n (ne_oo hho hx (by decide))).trans ((wd_up_n (ne_oa hho hta)).trans ((wd_up_n (ne_new hq14 hho)).trans hho))), ((wd_up_n (Ne.symm (ne_oa hx hpa))).trans ((wd_up_n (Ne.symm (ne_tt hta hpa hT42))).trans ((wd_up_n (ne_new hq14 hpa)).trans hpa))), ((wd_up_n (Ne.symm (ne_oa hx hla))).trans ((wd_up_n (Ne.symm (ne_tt hta hla hT43))).trans ((wd_up_n (ne_new hq14 hla)).trans hla))), ((wd_up_n (Ne.symm (ne_oa hx hta))).trans wd_up_s), ((wd_up_n (Ne.symm (ne_oa hx hrk))).trans ((wd_up_n (Ne.symm n1)).trans ((wd_up_n (ne_new hq14 hrk)).trans hrk))), ((wd_up_n (Ne.symm (ne_oa hx hea))).trans ((wd_up_n (ne_tt hea hta hT54)).trans ((wd_up_n (ne_new hq14 hea)).trans hea))), ((wd_up_n (Ne.symm (ne_oa hx hsa))).trans ((wd_up_n (ne_ia hsa hta)).trans ((wd_up_n (ne_new hq14 hsa)).trans hsa))), ((wd_up_n (ne_oo hpn hx (by decide))).trans ((wd_up_n (ne_oa hpn hta)).trans ((wd_up_n (ne_new hq14 hpn)).trans hpn))), ((wd_up_n (Ne.symm (ne_oa hx hca))).trans ((wd_up_n (Ne.symm n2)).trans ((wd_up_n (ne_new hq14 hca)).trans hca))), ((wd_up_n (Ne.symm (ne_oa hx hga))).trans ((wd_up_n (ne_ia hga hta)).trans ((wd_up_n (ne_new hq14 hga)).trans hga))), ((wd_up_n (Ne.symm (ne_oa hx hra))).trans ((wd_up_n (ne_ia hra hta)).trans ((wd_up_n (ne_new hq14 hra)).trans hra))), ((wd_up_n (Ne.symm (ne_oa hx hoa))).trans ((wd_up_n (Ne.symm n3)).trans ((wd_up_n (ne_new hq14 hoa)).trans hoa)))⟩, ⟨n1, n2, n3, n4, n5, n6, n7, n8, n9⟩, ⟨hLb, hTb, hL63⟩, Pools_part hS0 (Pools_up (Pools_up (Pools_new hPo hq14) ((wd_up_n (ne_new hq14 hta)).trans hta) trivial) ((wd_up_n (ne_oa hx hta)).trans ((wd_up_n (ne_new hq14 hx)).trans hx)) (show (7 : Nat) ≠ 1 ∧ (7 : Nat) ≠ 2 ∧ (7 : Nat) ≠ 3 ∧ (7 : Nat) ≠ 4 by decide)) ((wd_up_n (Ne.symm (ne_new hq14 hx))).trans ((wd_up_n (Ne.symm (ne_new hq14 hta))).trans wd_up_s)) hqsp, RT_ag hRT (Ag_part e3) ⟨rfl, rfl, rfl, rfl, rfl, rfl⟩ (Nat.le_succ _) (fun k_ hk_ => wU_n (by omega)) hto ((wd_up_n (ne_oo hto hx (by decide))).trans ((wd_up_n (ne_oa hto hta)).trans ((wd_up_n (ne_new hq14 hto)).trans hto)))⟩⟩
              · exact g_throw C hl0 (cls := xIS) (text := "there are 40 parts") (by decide +kernel) cl_Ct_86 ini_IS (by decide +kernel) at_IS1 at_IS2 at_IS3 hex d_Ct_part_93 d_Ct_part_96 d_Ct_part_97 d_Ct_part_99 d_Ct_part_102 ⟨Nat.le_of_ble_eq_true rfl, Nat.le_of_ble_eq_true rfl, Nat.le_of_ble_eq_true rfl, Nat.le_of_ble_eq_true rfl⟩ (Nat.le_of_ble_eq_true rfl) (Nat.le_of_ble_eq_true rfl) (Or.inr ⟨rfl, by omega, by omega⟩)
            · exact g_throw C hl0 (cls := xIA) (text := "no such days, hours or work") (by decide +kernel) cl_Ct_76 ini_IA (by decide +kernel) at_IA1 at_IA2 at_IA3 hex d_Ct_part_74 d_Ct_part_77 d_Ct_part_78 d_Ct_part_80 d_Ct_part_83 ⟨Nat.le_of_ble_eq_true rfl, Nat.le_of_ble_eq_true rfl, Nat.le_of_ble_eq_true rfl, Nat.le_of_ble_eq_true rfl⟩ (Nat.le_of_ble_eq_true rfl) (Nat.le_of_ble_eq_true rfl) (Or.inl ⟨rfl, by omega⟩)
      · exact g_throw C hl0 (cls := xIA) (text := "no such place, skill or kind") (by decide +kernel) cl_Ct_76 ini_IA (by decide +kernel) at_IA1 at_IA2 at_IA3 hex d_Ct_part_28 d_Ct_part_31 d_Ct_part_32 d_Ct_part_34 d_Ct_part_37 ⟨Nat.le_of_ble_eq_true rfl, Nat.le_of_ble_eq_true rfl, Nat.le_of_ble_eq_true rfl, Nat.le_of_ble_eq_true rfl⟩ (Nat.le_of_ble_eq_true rfl) (Nat.le_of_ble_eq_true rfl) (Or.inl ⟨rfl, by omega⟩)
set_option maxHeartbeats 4000000 in
set_option maxRecDepth 100000 in
theorem ct_Ct_person (l : Launch) (hl0 : l.stackTraces = false) (D : va_G) (tys : xK) (A : Nat → Prop) (M : Wm) (hT : tyOK tys) (x : Nat) (s : AS) (z1_ z2_ z3_ : Int) (hz1 : (-2147483648 ≤ z1_ ∧ z1_ < 2147483648)) (hz2 : (-2147483648 ≤ z2_ ∧ z2_ < 2147483648)) (hz3 : (-2147483648 ≤ z3_ ∧ z3_ < 2147483648)) (hR : RC tys M x s) : xT l y_Ct_person b_Ct_person 5 (some .int) { frames := 6, cells := 1, slots := 6, locals := 90 } D tys A [.ref x, .int (iI z1_), .int (iI z2_), .int (iI z3_)] M (qI D A (fun z M' => ((0 ≤ z1_ ∧ z1_ ≤ 255) ∧ (0 ≤ z2_ ∧ z2_ < s 0 0 1) ∧ (0 ≤ z3_ ∧ z3_ ≤ 100000)) ∧ s 0 0 4 < 8 ∧ z = s 0 0 4 ∧ RC tys M' x (sPerson s z1_ z2_ z3_))) (fun E => (E = xIA ∧ ¬ ((0 ≤ z1_ ∧ z1_ ≤ 255) ∧ (0 ≤ z2_ ∧ z2_ < s 0 0 1) ∧ (0 ≤ z3_ ∧ z3_ ≤ 100000))) ∨ (E = xIS ∧ ((0 ≤ z1_ ∧ z1_ ≤ 255) ∧ (0 ≤ z2_ ∧ z2_ < s 0 0 1) ∧ (0 ≤ z3_ ∧ z3_ ≤ 100000)) ∧ 8 ≤ s 0 0 4)) 1 6 := by
  refine xet_of (own := R_Ct) (lv := [(0, .ref x), (1, .int (iI z1_)), (2, .int (iI z2_)), (3, .int (iI z3_))]) rfl (by decide) (Nat.le_of_ble_eq_true rfl) rfl ?_
  intro p_ e_ s_ m_ bl_ me_ c_ C hr hex
  have hT9 := hT
  obtain ⟨hT0, hT1, hT2, hT3, hT4, hT5, hT32, hT42, hT52, hT43, hT53, hT54⟩ := hT
  have hR0 := hR
  obtain ⟨np, nl, nt, ns, ho, pa, la, ta, rk, ea, sa, pn, ca, ga, ra, to, oa, gp, gl, gt, gr, ge, gc, so, L, T, c0, hS, ⟨hx, hho, hpa, hla, hta, hrk, hea, hsa, hpn, hca, hga, hra, hoa⟩, ⟨n1, n2, n3, n4, n5, n6, n7, n8, n9⟩, ⟨hLb, hTb, hL63⟩, hPo, hRT⟩ := hR
  have hS0 := hS
  obtain ⟨⟨e1, e2, e3, e4⟩, ⟨b1_, b2_, b3_, b4_⟩, b5_, okp, oklf, okt, oku, oksp, okg, oku6⟩ := hS
  have hps := Ps_of hS0 hPo
  have hH := Ho_of (tys := tys) hS0 hPo hho hla
  have hlok := hH.2.1
  rcases hRT with ⟨hw5, ⟨c7, c8, c9, c10⟩, d0, hto⟩ | ⟨w, gq, cn, dn, hw5, hwn, hge, c7, c8, hcd, h6, hlegs, c9, c10, hto, hso⟩
  · have hcase := hw5
    refine g_iload_n C d_Ct_person_0 1 rfl ?_
    refine g_iconst C d_Ct_person_1 ?_
    refine g_sipush C d_Ct_person_2 (by decide) ?_
    refine g_calliP C (run_S C [.int (iI z1_), .int (iI 0), .int (iI 255)] k_Ct_68 (ct_Ct_within l D tys A M z1_ 0 255 (by omega)) ⟨rfl, rfl, Nat.le_of_ble_eq_true rfl, Nat.le_of_ble_eq_true rfl⟩ rfl rfl (Nat.le_of_ble_eq_true rfl) d_Ct_person_5 ⟨Nat.le_of_ble_eq_true rfl, Nat.le_of_ble_eq_true rfl⟩) (fun z1 hz1 => ?_)
    refine g_if_eq C 32 d_Ct_person_8 rfl (by omega) (fun c2 => ?_) (fun c2 => ?_)
    · exact g_throw C hl0 (cls := xIA) (text := "no such skills, home or seconds") (by decide +kernel) cl_Ct_76 ini_IA (by decide +kernel) at_IA1 at_IA2 at_IA3 hex d_Ct_person_32 d_Ct_person_35 d_Ct_person_36 d_Ct_person_38 d_Ct_person_41 ⟨Nat.le_of_ble_eq_true rfl, Nat.le_of_ble_eq_true rfl, Nat.le_of_ble_eq_true rfl, Nat.le_of_ble_eq_true rfl⟩ (Nat.le_of_ble_eq_true rfl) (Nat.le_of_ble_eq_true rfl) (Or.inl ⟨rfl, by omega⟩)
    · refine g_aload_n C d_Ct_person_11 0 rfl ?_
      refine g_get C f_Ct_10 hx rfl d_Ct_person_12 ?_
      refine g_iload_n C d_Ct_person_15 2 rfl ?_
      refine g_calliP C (run_V C [.int (iI z2_)] k_Ct_121 (ct_Ho_hasPlace l D tys A M ho pa la np nl z2_ (by omega) b1_ hho) hho ⟨rfl, rfl, Nat.le_of_ble_eq_true rfl, Nat.le_of_ble_eq_true rfl⟩ rfl rfl (Nat.le_of_ble_eq_true rfl) d_Ct_person_16 ⟨Nat.le_of_ble_eq_true rfl, Nat.le_of_ble_eq_true rfl⟩) (fun z3 hz3 => ?_)
      refine g_if_eq C 32 d_Ct_person_19 rfl (by omega) (fun c4 => ?_) (fun c4 => ?_)
      · exact g_throw C hl0 (cls := xIA) (text := "no such skills, home or seconds") (by decide +kernel) cl_Ct_76 ini_IA (by decide +kernel) at_IA1 at_IA2 at_IA3 hex d_Ct_person_32 d_Ct_person_35 d_Ct_person_36 d_Ct_person_38 d_Ct_person_41 ⟨Nat.le_of_ble_eq_true rfl, Nat.le_of_ble_eq_true rfl, Nat.le_of_ble_eq_true rfl, Nat.le_of_ble_eq_true rfl⟩ (Nat.le_of_ble_eq_true rfl) (Nat.le_of_ble_eq_true rfl) (Or.inl ⟨rfl, by omega⟩)
      · refine g_iload_n C d_Ct_person_22 3 rfl ?_
        refine g_iconst C d_Ct_person_23 ?_
        refine g_ldc C 100000 q_Ct_141 d_Ct_person_24 ?_
        refine g_calliP C (run_S C [.int (iI z3_), .int (iI 0), .int (iI 100000)] k_Ct_68 (ct_Ct_within l D tys A M z3_ 0 100000 (by omega)) ⟨rfl, rfl, Nat.le_of_ble_eq_true rfl, Nat.le_of_ble_eq_true rfl⟩ rfl rfl (Nat.le_of_ble_eq_true rfl) d_Ct_person_26 ⟨Nat.le_of_ble_eq_true rfl, Nat.le_of_ble_eq_true rfl⟩) (fun z5 hz5 => ?_)
        refine g_if_ne C 42 d_Ct_person_29 rfl (by omega) (fun c6 => ?_) (fun c6 => ?_)
        · refine g_aload_n C d_Ct_person_42 0 rfl ?_
          refine g_get C f_Ct_53 hx rfl d_Ct_person_43 ?_
          refine g_bipush C d_Ct_person_46 (by decide) ?_
          refine g_icmp_lt C 61 d_Ct_person_48 rfl (by omega) (fun c7 => ?_) (fun c7 => ?_)
          · refine g_aload_n C d_Ct_person_61 0 rfl ?_
            refine g_get C f_Ct_45 hx rfl d_Ct_person_62 ?_
            refine g_callv C (run_V C [] k_Ct_91 (ct_To_end l D tys A M to oa none d0 0 0 0 0 hto) hto ⟨rfl, rfl, Nat.le_of_ble_eq_true rfl, Nat.le_of_ble_eq_true rfl⟩ rfl rfl (Nat.le_of_ble_eq_true rfl) d_Ct_person_65 ⟨Nat.le_of_ble_eq_true rfl, Nat.le_of_ble_eq_true rfl⟩) (fun M8 hM8 => ?_)
            subst hM8
            obtain ⟨i, rfl⟩ : ∃ i : Nat, z2_ = (i : Int) := ⟨z2_.toNat, by omega⟩
            obtain ⟨qp, hqsp, hqp⟩ := hPo.1 i (by omega)
            have hqop := okp i (by omega)
            refine g_aload_n C d_Ct_person_68 0 rfl ?_
            refine g_get C f_Ct_53 ((wd_up_n (ne_oo hx hto (by decide))).trans hx) rfl d_Ct_person_69 ?_
            refine g_istore (lv' := [(4, .int (iI ((ns : Int)))), (0, .ref x), (1, .int (iI z1_)), (2, .int (iI ((i : Int)))), (3, .int (iI z3_))]) C d_Ct_person_72 (by decide) rfl ?_
            refine g_aload_n C d_Ct_person_74 1 rfl ?_
            refine g_get C f_Ct_27 ((wd_up_n (ne_oo hx hto (by decide))).trans hx) rfl d_Ct_person_75 ?_
            refine g_iload C d_Ct_person_78 0 rfl ?_
            refine g_new C nw_Ct_25 ⟨Nat.le_of_ble_eq_true rfl, Nat.le_of_ble_eq_true rfl⟩ d_Ct_person_80 (fun q9 hq9 => ?_)
            refine g_dup C rfl d_Ct_person_83 ?_
            refine g_iload C d_Ct_person_84 0 rfl ?_
            refine g_iload_n C d_Ct_person_86 2 rfl ?_
            refine g_aload_n C d_Ct_person_87 1 rfl ?_
            refine g_get C f_Ct_10 ((wd_up_n (ne_new hq9 ((wd_up_n (ne_oo hx hto (by decide))).trans hx))).trans ((wd_up_n (ne_oo hx hto (by decide))).trans hx)) rfl d_Ct_person_88 ?_
            refine g_get C f_Ct_134 ((wd_up_n (ne_new hq9 ((wd_up_n (ne_oo hho hto (by decide))).trans hho))).trans ((wd_up_n (ne_oo hho hto (by decide))).trans hho)) rfl d_Ct_person_91 ?_
            refine g_iload_n C d_Ct_person_94 3 rfl ?_
            refine g_aald C 2 hT2 ((wd_up_n (ne_new hq9 ((wd_up_n (Ne.symm (ne_oa hto hpa))).trans hpa))).trans ((wd_up_n (Ne.symm (ne_oa hto hpa))).trans hpa)) (by omega) (by rw [show ((i : Nat) : Int).toNat = i by omega]; exact hqsp) d_Ct_person_95 ?_
            refine g_iload_n C d_Ct_person_96 4 rfl ?_
            refine g_callv C (run_I C [.int (iI ((ns : Int))), .int (iI z1_), .ref qp, .int (iI z3_)] k_Ct_146 (ct_Pe_init l D tys A (va_up (va_up M to (some (.inr (6, [.ref oa, .null, .int (iI d0), .int (iI 0), .int (iI 0), .int (iI 0), .int (iI 0)])))) q9 (some (.inr (3, [.int (iI 0), .int (iI 0), .null, .int (iI 0)])))) q9 ((ns : Int)) z1_ qp z3_ wd_up_s) ⟨rfl, rfl, Nat.le_of_ble_eq_true rfl, Nat.le_of_ble_eq_true rfl⟩ rfl rfl (Nat.le_of_ble_eq_true rfl) d_Ct_person_97 ⟨Nat.le_of_ble_eq_true rfl, Nat.le_of_ble_eq_true rfl⟩) (fun M10 hM10 => ?_)
            subst hM10
            refine g_world (bx_uu _ _ _ _) ?_
            refine g_aast C 5 hT5 rfl ((wd_up_n (ne_new hq9 ((wd_up_n (Ne.symm (ne_oa hto hea))).trans hea))).trans ((wd_up_n (Ne.symm (ne_oa hto hea))).trans hea)) wd_up_s (by omega) d_Ct_person_100 ?_
            refine g_aload_n C d_Ct_person_101 1 rfl ?_
            refine g_dup C rfl d_Ct_person_102 ?_
            refine g_get C f_Ct_53 ((wd_up_n (ne_oa hx hea)).trans ((wd_up_n (ne_new hq9 ((wd_up_n (ne_oo hx hto (by decide))).trans hx))).trans ((wd_up_n (ne_oo hx hto (by decide))).trans hx))) rfl d_Ct_person_103 ?_
            refine g_iconst C d_Ct_person_106 ?_
            refine g_iadd C d_Ct_person_107 ?_
            refine g_put C p_Ct_53 ((wd_up_n (ne_oa hx hea)).trans ((wd_up_n (ne_new hq9 ((wd_up_n (ne_oo hx hto (by decide))).trans hx))).trans ((wd_up_n (ne_oo hx hto (by decide))).trans hx))) rfl rfl (Nat.le_of_ble_eq_true rfl) (fs' := [.int (iI (s 0 0 0)), .ref ho, .ref ta, .ref rk, .ref ea, .ref sa, .ref pn, .ref to, .int (iI ((nt : Int))), .int (iI (((ns : Int)) + 1))]) rfl d_Ct_person_108 ?_
            refine g_iload C d_Ct_person_111 0 rfl ?_
            refine g_xret ?_
            refine g_widen (k := 1) (n := 6) (Nat.le_of_ble_eq_true rfl) (Nat.le_of_ble_eq_true rfl) ?_
            exact g_iret C hr d_Ct_person_113 ⟨by omega, by omega, e4.symm, ⟨np, nl, nt, ns + 1, ho, pa, la, ta, rk, ea, sa, pn, ca, ga, ra, to, oa, gp, gl, gt, gr, va_up ge ns (some q9), gc, so, L, T, c0, okS_person hS0 (by omega) (by omega) (okU_r3 (by omega)), ⟨wd_up_s, ((wd_up_n (ne_oo hho hx (by decide))).trans ((wd_up_n (ne_oa hho hea)).trans ((wd_up_n (ne_new hq9 ((wd_up_n (ne_oo hho hto (by decide))).trans hho))).trans ((wd_up_n (ne_oo hho hto (by decide))).trans hho)))), ((wd_up_n (Ne.symm (ne_oa hx hpa))).trans ((wd_up_n (Ne.symm (ne_tt hea hpa hT52))).trans ((wd_up_n (ne_new hq9 ((wd_up_n (Ne.symm (ne_oa hto hpa))).trans hpa))).trans ((wd_up_n (Ne.symm (ne_oa hto hpa))).trans hpa)))), ((wd_up_n (Ne.symm (ne_oa hx hla))).trans ((wd_up_n (Ne.symm (ne_tt hea hla hT53))).trans ((wd_up_n (ne_new hq9 ((wd_up_n (Ne.symm (ne_oa hto hla))).trans hla))).trans ((wd_up_n (Ne.symm (ne_oa hto hla))).trans hla)))), ((wd_up_n (Ne.symm (ne_oa hx hta))).trans ((wd_up_n (Ne.symm (ne_tt hea hta hT54))).trans ((wd_up_n (ne_new hq9 ((wd_up_n (Ne.symm (ne_oa hto hta))).trans hta))).trans ((wd_up_n (Ne.symm (ne_oa hto hta))).trans hta)))), ((wd_up_n (Ne.symm (ne_oa hx hrk))).trans ((wd_up_n (Ne.symm (ne_tt hea hrk hT54))).trans ((wd_up_n (ne_new hq9 ((wd_up_n (Ne.symm (ne_oa hto hrk))).trans hrk))).trans ((wd_up_n (Ne.symm (ne_oa hto hrk))).trans hrk)))), ((wd_up_n (Ne.symm (ne_oa hx hea))).trans wd_up_s), ((wd_up_n (Ne.symm (ne_oa hx hsa))).trans ((wd_up_n (ne_ia hsa hea)).trans ((wd_up_n (ne_new hq9 ((wd_up_n (Ne.symm (ne_oa hto hsa))).trans hsa))).trans ((wd_up_n (Ne.symm (ne_oa hto hsa))).trans hsa)))), ((wd_up_n (ne_oo hpn hx (by decide))).trans ((wd_up_n (ne_oa hpn hea)).trans ((wd_up_n (ne_new hq9 ((wd_up_n (ne_oo hpn hto (by decide))).trans hpn))).trans ((wd_up_n (ne_oo hpn hto (by decide))).trans hpn)))), ((wd_up_n (Ne.symm (ne_oa hx hca))).trans ((wd_up_n (Ne.symm (ne_tt hea hca hT54))).trans ((wd_up_n (ne_new hq9 ((wd_up_n (Ne.symm (ne_oa hto hca))).trans hca))).trans ((wd_up_n (Ne.symm (ne_oa hto hca))).trans hca)))), ((wd_up_n (Ne.symm (ne_oa hx hga))).trans ((wd_up_n (ne_ia hga hea)).trans ((wd_up_n (ne_new hq9 ((wd_up_n (Ne.symm (ne_oa hto hga))).trans hga))).trans ((wd_up_n (Ne.symm (ne_oa hto hga))).trans hga)))), ((wd_up_n (Ne.symm (ne_oa hx hra))).trans ((wd_up_n (ne_ia hra hea)).trans ((wd_up_n (ne_new hq9 ((wd_up_n (Ne.symm (ne_oa hto hra))).trans hra))).trans ((wd_up_n (Ne.symm (ne_oa hto hra))).trans hra)))), ((wd_up_n (Ne.symm (ne_oa hx hoa))).trans ((wd_up_n (Ne.symm (ne_tt hea hoa hT54))).trans ((wd_up_n (ne_new hq9 ((wd_up_n (Ne.symm (ne_oa hto hoa))).trans hoa))).trans ((wd_up_n (Ne.symm (ne_oa hto hoa))).trans hoa))))⟩, ⟨n1, n2, n3, n4, n5, n6, n7, n8, n9⟩, ⟨hLb, hTb, hL63⟩, Pools_person hS0 (Pools_up (Pools_up (Pools_new (Pools_up hPo hto (show (6 : Nat) ≠ 1 ∧ (6 : Nat) ≠ 2 ∧ (6 : Nat) ≠ 3 ∧ (6 : Nat) ≠ 4 by decide)) hq9) ((wd_up_n (ne_new hq9 ((wd_up_n (Ne.symm (ne_oa hto hea))).trans hea))).trans ((wd_up_n (Ne.symm (ne_oa hto hea))).trans hea)) trivial) ((wd_up_n (ne_oa hx hea)).trans ((wd_up_n (ne_new hq9 ((wd_up_n (ne_oo hx hto (by decide))).trans hx))).trans ((wd_up_n (ne_oo hx hto (by decide))).trans hx))) (show (7 : Nat) ≠ 1 ∧ (7 : Nat) ≠ 2 ∧ (7 : Nat) ≠ 3 ∧ (7 : Nat) ≠ 4 by decide)) ((wd_up_n (Ne.symm (ne_new hq9 ((wd_up_n (ne_oo hx hto (by decide))).trans hx)))).trans ((wd_up_n (Ne.symm (ne_new hq9 ((wd_up_n (Ne.symm (ne_oa hto hea))).trans hea)))).trans wd_up_s)) hqsp, Or.inl ⟨rfl, ⟨rfl, rfl, rfl, rfl⟩, d0, ((wd_up_n (ne_oo hto hx (by decide))).trans ((wd_up_n (ne_oa hto hea)).trans ((wd_up_n (ne_new hq9 wd_up_s)).trans wd_up_s)))⟩⟩⟩
          · exact g_throw C hl0 (cls := xIS) (text := "there are 8 persons") (by decide +kernel) cl_Ct_86 ini_IS (by decide +kernel) at_IS1 at_IS2 at_IS3 hex d_Ct_person_51 d_Ct_person_54 d_Ct_person_55 d_Ct_person_57 d_Ct_person_60 ⟨Nat.le_of_ble_eq_true rfl, Nat.le_of_ble_eq_true rfl, Nat.le_of_ble_eq_true rfl, Nat.le_of_ble_eq_true rfl⟩ (Nat.le_of_ble_eq_true rfl) (Nat.le_of_ble_eq_true rfl) (Or.inr ⟨rfl, by omega, by omega⟩)
        · exact g_throw C hl0 (cls := xIA) (text := "no such skills, home or seconds") (by decide +kernel) cl_Ct_76 ini_IA (by decide +kernel) at_IA1 at_IA2 at_IA3 hex d_Ct_person_32 d_Ct_person_35 d_Ct_person_36 d_Ct_person_38 d_Ct_person_41 ⟨Nat.le_of_ble_eq_true rfl, Nat.le_of_ble_eq_true rfl, Nat.le_of_ble_eq_true rfl, Nat.le_of_ble_eq_true rfl⟩ (Nat.le_of_ble_eq_true rfl) (Nat.le_of_ble_eq_true rfl) (Or.inl ⟨rfl, by omega⟩)
  · have hTA := To_of (tys := tys) hS0 hPo hwn hge hcd hto hoa hso
    obtain ⟨gq2, hgq, hphw, huw, hmw, hgq1, hhm⟩ := Pe_of hS0 hPo w hwn
    rw [hge] at hgq
    cases hgq
    refine g_iload_n C d_Ct_person_0 1 rfl ?_
    refine g_iconst C d_Ct_person_1 ?_
    refine g_sipush C d_Ct_person_2 (by decide) ?_
    refine g_calliP C (run_S C [.int (iI z1_), .int (iI 0), .int (iI 255)] k_Ct_68 (ct_Ct_within l D tys A M z1_ 0 255 (by omega)) ⟨rfl, rfl, Nat.le_of_ble_eq_true rfl, Nat.le_of_ble_eq_true rfl⟩ rfl rfl (Nat.le_of_ble_eq_true rfl) d_Ct_person_5 ⟨Nat.le_of_ble_eq_true rfl, Nat.le_of_ble_eq_true rfl⟩) (fun z11 hz11 => ?_)
    refine g_if_eq C 32 d_Ct_person_8 rfl (by omega) (fun c12 => ?_) (fun c12 => ?_)
    · exact g_throw C hl0 (cls := xIA) (text := "no such skills, home or seconds") (by decide +kernel) cl_Ct_76 ini_IA (by decide +kernel) at_IA1 at_IA2 at_IA3 hex d_Ct_person_32 d_Ct_person_35 d_Ct_person_36 d_Ct_person_38 d_Ct_person_41 ⟨Nat.le_of_ble_eq_true rfl, Nat.le_of_ble_eq_true rfl, Nat.le_of_ble_eq_true rfl, Nat.le_of_ble_eq_true rfl⟩ (Nat.le_of_ble_eq_true rfl) (Nat.le_of_ble_eq_true rfl) (Or.inl ⟨rfl, by omega⟩)
    · refine g_aload_n C d_Ct_person_11 0 rfl ?_
      refine g_get C f_Ct_10 hx rfl d_Ct_person_12 ?_
      refine g_iload_n C d_Ct_person_15 2 rfl ?_
      refine g_calliP C (run_V C [.int (iI z2_)] k_Ct_121 (ct_Ho_hasPlace l D tys A M ho pa la np nl z2_ (by omega) b1_ hho) hho ⟨rfl, rfl, Nat.le_of_ble_eq_true rfl, Nat.le_of_ble_eq_true rfl⟩ rfl rfl (Nat.le_of_ble_eq_true rfl) d_Ct_person_16 ⟨Nat.le_of_ble_eq_true rfl, Nat.le_of_ble_eq_true rfl⟩) (fun z13 hz13 => ?_)
      refine g_if_eq C 32 d_Ct_person_19 rfl (by omega) (fun c14 => ?_) (fun c14 => ?_)
      · exact g_throw C hl0 (cls := xIA) (text := "no such skills, home or seconds") (by decide +kernel) cl_Ct_76 ini_IA (by decide +kernel) at_IA1 at_IA2 at_IA3 hex d_Ct_person_32 d_Ct_person_35 d_Ct_person_36 d_Ct_person_38 d_Ct_person_41 ⟨Nat.le_of_ble_eq_true rfl, Nat.le_of_ble_eq_true rfl, Nat.le_of_ble_eq_true rfl, Nat.le_of_ble_eq_true rfl⟩ (Nat.le_of_ble_eq_true rfl) (Nat.le_of_ble_eq_true rfl) (Or.inl ⟨rfl, by omega⟩)
      · refine g_iload_n C d_Ct_person_22 3 rfl ?_
        refine g_iconst C d_Ct_person_23 ?_
        refine g_ldc C 100000 q_Ct_141 d_Ct_person_24 ?_
        refine g_calliP C (run_S C [.int (iI z3_), .int (iI 0), .int (iI 100000)] k_Ct_68 (ct_Ct_within l D tys A M z3_ 0 100000 (by omega)) ⟨rfl, rfl, Nat.le_of_ble_eq_true rfl, Nat.le_of_ble_eq_true rfl⟩ rfl rfl (Nat.le_of_ble_eq_true rfl) d_Ct_person_26 ⟨Nat.le_of_ble_eq_true rfl, Nat.le_of_ble_eq_true rfl⟩) (fun z15 hz15 => ?_)
        refine g_if_ne C 42 d_Ct_person_29 rfl (by omega) (fun c16 => ?_) (fun c16 => ?_)
        · refine g_aload_n C d_Ct_person_42 0 rfl ?_
          refine g_get C f_Ct_53 hx rfl d_Ct_person_43 ?_
          refine g_bipush C d_Ct_person_46 (by decide) ?_
          refine g_icmp_lt C 61 d_Ct_person_48 rfl (by omega) (fun c17 => ?_) (fun c17 => ?_)
          · refine g_aload_n C d_Ct_person_61 0 rfl ?_
            refine g_get C f_Ct_45 hx rfl d_Ct_person_62 ?_
            refine g_callv C (run_V C [] k_Ct_91 (ct_To_end l D tys A M to oa (some gq) (s 0 0 6) ((cn : Int)) ((dn : Int)) (s 0 0 9) (s 0 0 10) hto) hto ⟨rfl, rfl, Nat.le_of_ble_eq_true rfl, Nat.le_of_ble_eq_true rfl⟩ rfl rfl (Nat.le_of_ble_eq_true rfl) d_Ct_person_65 ⟨Nat.le_of_ble_eq_true rfl, Nat.le_of_ble_eq_true rfl⟩) (fun M18 hM18 => ?_)
            subst hM18
            obtain ⟨i, rfl⟩ : ∃ i : Nat, z2_ = (i : Int) := ⟨z2_.toNat, by omega⟩
            obtain ⟨qp, hqsp, hqp⟩ := hPo.1 i (by omega)
            have hqop := okp i (by omega)
            refine g_aload_n C d_Ct_person_68 0 rfl ?_
            refine g_get C f_Ct_53 ((wd_up_n (ne_oo hx hto (by decide))).trans hx) rfl d_Ct_person_69 ?_
            refine g_istore (lv' := [(4, .int (iI ((ns : Int)))), (0, .ref x), (1, .int (iI z1_)), (2, .int (iI ((i : Int)))), (3, .int (iI z3_))]) C d_Ct_person_72 (by decide) rfl ?_
            refine g_aload_n C d_Ct_person_74 1 rfl ?_
            refine g_get C f_Ct_27 ((wd_up_n (ne_oo hx hto (by decide))).trans hx) rfl d_Ct_person_75 ?_
            refine g_iload C d_Ct_person_78 0 rfl ?_
            refine g_new C nw_Ct_25 ⟨Nat.le_of_ble_eq_true rfl, Nat.le_of_ble_eq_true rfl⟩ d_Ct_person_80 (fun q19 hq19 => ?_)
            refine g_dup C rfl d_Ct_person_83 ?_
            refine g_iload C d_Ct_person_84 0 rfl ?_
            refine g_iload_n C d_Ct_person_86 2 rfl ?_
            refine g_aload_n C d_Ct_person_87 1 rfl ?_
            refine g_get C f_Ct_10 ((wd_up_n (ne_new hq19 ((wd_up_n (ne_oo hx hto (by decide))).trans hx))).trans ((wd_up_n (ne_oo hx hto (by decide))).trans hx)) rfl d_Ct_person_88 ?_
            refine g_get C f_Ct_134 ((wd_up_n (ne_new hq19 ((wd_up_n (ne_oo hho hto (by decide))).trans hho))).trans ((wd_up_n (ne_oo hho hto (by decide))).trans hho)) rfl d_Ct_person_91 ?_
            refine g_iload_n C d_Ct_person_94 3 rfl ?_
            refine g_aald C 2 hT2 ((wd_up_n (ne_new hq19 ((wd_up_n (Ne.symm (ne_oa hto hpa))).trans hpa))).trans ((wd_up_n (Ne.symm (ne_oa hto hpa))).trans hpa)) (by omega) (by rw [show ((i : Nat) : Int).toNat = i by omega]; exact hqsp) d_Ct_person_95 ?_
            refine g_iload_n C d_Ct_person_96 4 rfl ?_
            refine g_callv C (run_I C [.int (iI ((ns : Int))), .int (iI z1_), .ref qp, .int (iI z3_)] k_Ct_146 (ct_Pe_init l D tys A (va_up (va_up M to (some (.inr (6, [.ref oa, .null, .int (iI (s 0 0 6)), .int (iI 0), .int (iI 0), .int (iI 0), .int (iI 0)])))) q19 (some (.inr (3, [.int (iI 0), .int (iI 0), .null, .int (iI 0)])))) q19 ((ns : Int)) z1_ qp z3_ wd_up_s) ⟨rfl, rfl, Nat.le_of_ble_eq_true rfl, Nat.le_of_ble_eq_true rfl⟩ rfl rfl (Nat.le_of_ble_eq_true rfl) d_Ct_person_97 ⟨Nat.le_of_ble_eq_true rfl, Nat.le_of_ble_eq_true rfl⟩) (fun M20 hM20 => ?_)
            subst hM20
            refine g_world (bx_uu _ _ _ _) ?_
            refine g_aast C 5 hT5 rfl ((wd_up_n (ne_new hq19 ((wd_up_n (Ne.symm (ne_oa hto hea))).trans hea))).trans ((wd_up_n (Ne.symm (ne_oa hto hea))).trans hea)) wd_up_s (by omega) d_Ct_person_100 ?_
            refine g_aload_n C d_Ct_person_101 1 rfl ?_
            refine g_dup C rfl d_Ct_person_102 ?_
            refine g_get C f_Ct_53 ((wd_up_n (ne_oa hx hea)).trans ((wd_up_n (ne_new hq19 ((wd_up_n (ne_oo hx hto (by decide))).trans hx))).trans ((wd_up_n (ne_oo hx hto (by decide))).trans hx))) rfl d_Ct_person_103 ?_
            refine g_iconst C d_Ct_person_106 ?_
            refine g_iadd C d_Ct_person_107 ?_
            refine g_put C p_Ct_53 ((wd_up_n (ne_oa hx hea)).trans ((wd_up_n (ne_new hq19 ((wd_up_n (ne_oo hx hto (by decide))).trans hx))).trans ((wd_up_n (ne_oo hx hto (by decide))).trans hx))) rfl rfl (Nat.le_of_ble_eq_true rfl) (fs' := [.int (iI (s 0 0 0)), .ref ho, .ref ta, .ref rk, .ref ea, .ref sa, .ref pn, .ref to, .int (iI ((nt : Int))), .int (iI (((ns : Int)) + 1))]) rfl d_Ct_person_108 ?_
            refine g_iload C d_Ct_person_111 0 rfl ?_
            refine g_xret ?_
            refine g_widen (k := 1) (n := 6) (Nat.le_of_ble_eq_true rfl) (Nat.le_of_ble_eq_true rfl) ?_
            exact g_iret C hr d_Ct_person_113 ⟨by omega, by omega, e4.symm, ⟨np, nl, nt, ns + 1, ho, pa, la, ta, rk, ea, sa, pn, ca, ga, ra, to, oa, gp, gl, gt, gr, va_up ge ns (some q19), gc, so, L, T, c0, okS_person hS0 (by omega) (by omega) (okU_r3 (by omega)), ⟨wd_up_s, ((wd_up_n (ne_oo hho hx (by decide))).trans ((wd_up_n (ne_oa hho hea)).trans ((wd_up_n (ne_new hq19 ((wd_up_n (ne_oo hho hto (by decide))).trans hho))).trans ((wd_up_n (ne_oo hho hto (by decide))).trans hho)))), ((wd_up_n (Ne.symm (ne_oa hx hpa))).trans ((wd_up_n (Ne.symm (ne_tt hea hpa hT52))).trans ((wd_up_n (ne_new hq19 ((wd_up_n (Ne.symm (ne_oa hto hpa))).trans hpa))).trans ((wd_up_n (Ne.symm (ne_oa hto hpa))).trans hpa)))), ((wd_up_n (Ne.symm (ne_oa hx hla))).trans ((wd_up_n (Ne.symm (ne_tt hea hla hT53))).trans ((wd_up_n (ne_new hq19 ((wd_up_n (Ne.symm (ne_oa hto hla))).trans hla))).trans ((wd_up_n (Ne.symm (ne_oa hto hla))).trans hla)))), ((wd_up_n (Ne.symm (ne_oa hx hta))).trans ((wd_up_n (Ne.symm (ne_tt hea hta hT54))).trans ((wd_up_n (ne_new hq19 ((wd_up_n (Ne.symm (ne_oa hto hta))).trans hta))).trans ((wd_up_n (Ne.symm (ne_oa hto hta))).trans hta)))), ((wd_up_n (Ne.symm (ne_oa hx hrk))).trans ((wd_up_n (Ne.symm (ne_tt hea hrk hT54))).trans ((wd_up_n (ne_new hq19 ((wd_up_n (Ne.symm (ne_oa hto hrk))).trans hrk))).trans ((wd_up_n (Ne.symm (ne_oa hto hrk))).trans hrk)))), ((wd_up_n (Ne.symm (ne_oa hx hea))).trans wd_up_s), ((wd_up_n (Ne.symm (ne_oa hx hsa))).trans ((wd_up_n (ne_ia hsa hea)).trans ((wd_up_n (ne_new hq19 ((wd_up_n (Ne.symm (ne_oa hto hsa))).trans hsa))).trans ((wd_up_n (Ne.symm (ne_oa hto hsa))).trans hsa)))), ((wd_up_n (ne_oo hpn hx (by decide))).trans ((wd_up_n (ne_oa hpn hea)).trans ((wd_up_n (ne_new hq19 ((wd_up_n (ne_oo hpn hto (by decide))).trans hpn))).trans ((wd_up_n (ne_oo hpn hto (by decide))).trans hpn)))), ((wd_up_n (Ne.symm (ne_oa hx hca))).trans ((wd_up_n (Ne.symm (ne_tt hea hca hT54))).trans ((wd_up_n (ne_new hq19 ((wd_up_n (Ne.symm (ne_oa hto hca))).trans hca))).trans ((wd_up_n (Ne.symm (ne_oa hto hca))).trans hca)))), ((wd_up_n (Ne.symm (ne_oa hx hga))).trans ((wd_up_n (ne_ia hga hea)).trans ((wd_up_n (ne_new hq19 ((wd_up_n (Ne.symm (ne_oa hto hga))).trans hga))).trans ((wd_up_n (Ne.symm (ne_oa hto hga))).trans hga)))), ((wd_up_n (Ne.symm (ne_oa hx hra))).trans ((wd_up_n (ne_ia hra hea)).trans ((wd_up_n (ne_new hq19 ((wd_up_n (Ne.symm (ne_oa hto hra))).trans hra))).trans ((wd_up_n (Ne.symm (ne_oa hto hra))).trans hra)))), ((wd_up_n (Ne.symm (ne_oa hx hoa))).trans ((wd_up_n (Ne.symm (ne_tt hea hoa hT54))).trans ((wd_up_n (ne_new hq19 ((wd_up_n (Ne.symm (ne_oa hto hoa))).trans hoa))).trans ((wd_up_n (Ne.symm (ne_oa hto hoa))).trans hoa))))⟩, ⟨n1, n2, n3, n4, n5, n6, n7, n8, n9⟩, ⟨hLb, hTb, hL63⟩, Pools_person hS0 (Pools_up (Pools_up (Pools_new (Pools_up hPo hto (show (6 : Nat) ≠ 1 ∧ (6 : Nat) ≠ 2 ∧ (6 : Nat) ≠ 3 ∧ (6 : Nat) ≠ 4 by decide)) hq19) ((wd_up_n (ne_new hq19 ((wd_up_n (Ne.symm (ne_oa hto hea))).trans hea))).trans ((wd_up_n (Ne.symm (ne_oa hto hea))).trans hea)) trivial) ((wd_up_n (ne_oa hx hea)).trans ((wd_up_n (ne_new hq19 ((wd_up_n (ne_oo hx hto (by decide))).trans hx))).trans ((wd_up_n (ne_oo hx hto (by decide))).trans hx))) (show (7 : Nat) ≠ 1 ∧ (7 : Nat) ≠ 2 ∧ (7 : Nat) ≠ 3 ∧ (7 : Nat) ≠ 4 by decide)) ((wd_up_n (Ne.symm (ne_new hq19 ((wd_up_n (ne_oo hx hto (by decide))).trans hx)))).trans ((wd_up_n (Ne.symm (ne_new hq19 ((wd_up_n (Ne.symm (ne_oa hto hea))).trans hea)))).trans wd_up_s)) hqsp, Or.inl ⟨rfl, ⟨rfl, rfl, rfl, rfl⟩, (s 0 0 6), ((wd_up_n (ne_oo hto hx (by decide))).trans ((wd_up_n (ne_oa hto hea)).trans ((wd_up_n (ne_new hq19 wd_up_s)).trans wd_up_s)))⟩⟩⟩
          · exact g_throw C hl0 (cls := xIS) (text := "there are 8 persons") (by decide +kernel) cl_Ct_86 ini_IS (by decide +kernel) at_IS1 at_IS2 at_IS3 hex d_Ct_person_51 d_Ct_person_54 d_Ct_person_55 d_Ct_person_57 d_Ct_person_60 ⟨Nat.le_of_ble_eq_true rfl, Nat.le_of_ble_eq_true rfl, Nat.le_of_ble_eq_true rfl, Nat.le_of_ble_eq_true rfl⟩ (Nat.le_of_ble_eq_true rfl) (Nat.le_of_ble_eq_true rfl) (Or.inr ⟨rfl, by omega, by omega⟩)
        · exact g_throw C hl0 (cls := xIA) (text := "no such skills, home or seconds") (by decide +kernel) cl_Ct_76 ini_IA (by decide +kernel) at_IA1 at_IA2 at_IA3 hex d_Ct_person_32 d_Ct_person_35 d_Ct_person_36 d_Ct_person_38 d_Ct_person_41 ⟨Nat.le_of_ble_eq_true rfl, Nat.le_of_ble_eq_true rfl, Nat.le_of_ble_eq_true rfl, Nat.le_of_ble_eq_true rfl⟩ (Nat.le_of_ble_eq_true rfl) (Nat.le_of_ble_eq_true rfl) (Or.inl ⟨rfl, by omega⟩)
