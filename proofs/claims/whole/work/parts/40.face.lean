/-! THE FACE, reads: written by program (wip/whole/gen/face.py) -/
set_option maxHeartbeats 4000000 in
set_option maxRecDepth 100000 in
theorem ct_Ct_walk (l : Launch) (hl0 : l.stackTraces = false) (D : va_G) (tys : xK) (A : Nat → Prop) (M : Wm) (hT : tyOK tys) (x : Nat) (s : AS) (z1_ z2_ : Int) (hz1 : (-2147483648 ≤ z1_ ∧ z1_ < 2147483648)) (hz2 : (-2147483648 ≤ z2_ ∧ z2_ < 2147483648)) (hR : RC tys M x s) : xT l y_Ct_walk b_Ct_walk 3 (some .int) { frames := 6, cells := 1, slots := 6, locals := 91 } D tys A [.ref x, .int (iI z1_), .int (iI z2_)] M (qI D A (fun z M' => ((0 ≤ z1_ ∧ z1_ < s 0 0 1) ∧ (0 ≤ z2_ ∧ z2_ < s 0 0 1)) ∧ z = sWay (s 0 0 2).toNat (s 2) (s 1 z1_.toNat) (s 1 z2_.toNat) ∧ M' = M)) (fun E => E = xIA ∧ ¬ ((0 ≤ z1_ ∧ z1_ < s 0 0 1) ∧ (0 ≤ z2_ ∧ z2_ < s 0 0 1))) 1 6 := by
  refine xet_of (own := R_Ct) (lv := [(0, .ref x), (1, .int (iI z1_)), (2, .int (iI z2_))]) rfl (by decide) (Nat.le_of_ble_eq_true rfl) rfl ?_
  intro p_ e_ s_ m_ bl_ me_ c_ C hr hex
  have hT9 := hT
  obtain ⟨hT0, hT1, hT2, hT3, hT4, hT5, hT32, hT42, hT52, hT43, hT53, hT54⟩ := hT
  have hR0 := hR
  obtain ⟨np, nl, nt, ns, ho, pa, la, ta, rk, ea, sa, pn, ca, ga, ra, to, oa, gp, gl, gt, gr, ge, gc, so, L, T, c0, hS, ⟨hx, hho, hpa, hla, hta, hrk, hea, hsa, hpn, hca, hga, hra, hoa⟩, ⟨n1, n2, n3, n4, n5, n6, n7, n8, n9⟩, ⟨hLb, hTb, hL63⟩, hPo, hRT⟩ := hR
  have hS0 := hS
  obtain ⟨⟨e1, e2, e3, e4⟩, ⟨b1_, b2_, b3_, b4_⟩, b5_, okp, oklf, okt, oku, oksp, okg, oku6⟩ := hS
  have hps := Ps_of hS0 hPo
  have hH := Ho_of (tys := tys) hS0 hPo hho hla
  have hlok := hH.2.1
  refine g_aload_n C d_Ct_walk_0 0 rfl ?_
  refine g_get C f_Ct_10 hx rfl d_Ct_walk_1 ?_
  refine g_iload_n C d_Ct_walk_4 1 rfl ?_
  refine g_calliP C (run_V C [.int (iI z1_)] k_Ct_121 (ct_Ho_hasPlace l D tys A M ho pa la np nl z1_ (by omega) b1_ hho) hho ⟨rfl, rfl, Nat.le_of_ble_eq_true rfl, Nat.le_of_ble_eq_true rfl⟩ rfl rfl (Nat.le_of_ble_eq_true rfl) d_Ct_walk_5 ⟨Nat.le_of_ble_eq_true rfl, Nat.le_of_ble_eq_true rfl⟩) (fun z1 hz1 => ?_)
  refine g_if_eq C 22 d_Ct_walk_8 rfl (by omega) (fun c2 => ?_) (fun c2 => ?_)
  · exact g_throw C hl0 (cls := xIA) (text := "no such place") (by decide +kernel) cl_Ct_76 ini_IA (by decide +kernel) at_IA1 at_IA2 at_IA3 hex d_Ct_walk_22 d_Ct_walk_25 d_Ct_walk_26 d_Ct_walk_28 d_Ct_walk_31 ⟨Nat.le_of_ble_eq_true rfl, Nat.le_of_ble_eq_true rfl, Nat.le_of_ble_eq_true rfl, Nat.le_of_ble_eq_true rfl⟩ (Nat.le_of_ble_eq_true rfl) (Nat.le_of_ble_eq_true rfl) ⟨rfl, by omega⟩
  · refine g_aload_n C d_Ct_walk_11 0 rfl ?_
    refine g_get C f_Ct_10 hx rfl d_Ct_walk_12 ?_
    refine g_iload_n C d_Ct_walk_15 2 rfl ?_
    refine g_calliP C (run_V C [.int (iI z2_)] k_Ct_121 (ct_Ho_hasPlace l D tys A M ho pa la np nl z2_ (by omega) b1_ hho) hho ⟨rfl, rfl, Nat.le_of_ble_eq_true rfl, Nat.le_of_ble_eq_true rfl⟩ rfl rfl (Nat.le_of_ble_eq_true rfl) d_Ct_walk_16 ⟨Nat.le_of_ble_eq_true rfl, Nat.le_of_ble_eq_true rfl⟩) (fun z3 hz3 => ?_)
    refine g_if_ne C 32 d_Ct_walk_19 rfl (by omega) (fun c4 => ?_) (fun c4 => ?_)
    · obtain ⟨i, rfl⟩ : ∃ i : Nat, z1_ = (i : Int) := ⟨z1_.toNat, by omega⟩
      obtain ⟨j, rfl⟩ : ∃ j : Nat, z2_ = (j : Int) := ⟨z2_.toNat, by omega⟩
      obtain ⟨q1, hqs1, hq1⟩ := hPo.1 i (by omega)
      have hqo1 := okp i (by omega)
      obtain ⟨q2, hqs2, hq2⟩ := hPo.1 j (by omega)
      have hqo2 := okp j (by omega)
      refine g_aload_n C d_Ct_walk_32 0 rfl ?_
      refine g_get C f_Ct_10 hx rfl d_Ct_walk_33 ?_
      refine g_aload_n C d_Ct_walk_36 0 rfl ?_
      refine g_get C f_Ct_10 hx rfl d_Ct_walk_37 ?_
      refine g_get C f_Ct_134 hho rfl d_Ct_walk_40 ?_
      refine g_iload_n C d_Ct_walk_43 1 rfl ?_
      refine g_aald C 2 hT2 hpa (by omega) (by rw [show ((i : Nat) : Int).toNat = i by omega]; exact hqs1) d_Ct_walk_44 ?_
      refine g_aload_n C d_Ct_walk_45 0 rfl ?_
      refine g_get C f_Ct_10 hx rfl d_Ct_walk_46 ?_
      refine g_get C f_Ct_134 hho rfl d_Ct_walk_49 ?_
      refine g_iload_n C d_Ct_walk_52 2 rfl ?_
      refine g_aald C 2 hT2 hpa (by omega) (by rw [show ((j : Nat) : Int).toNat = j by omega]; exact hqs2) d_Ct_walk_53 ?_
      refine g_calliP C (run_V C [.ref q1, .ref q2] k_Ct_173 (ct_Ho_secondsBetween l D tys A M hT9 ho q1 q2 nl (s 2) (s 1 i) (s 1 j) hqo1 hqo2 hH hq1 hq2) hho ⟨rfl, rfl, Nat.le_of_ble_eq_true rfl, Nat.le_of_ble_eq_true rfl⟩ rfl rfl (Nat.le_of_ble_eq_true rfl) d_Ct_walk_54 ⟨Nat.le_of_ble_eq_true rfl, Nat.le_of_ble_eq_true rfl⟩) (fun z5 hz5 => ?_)
      have hbz5 := sWay_b (nl := nl) hlok hqo1 hqo2
      refine g_xret ?_
      refine g_widen (k := 1) (n := 6) (Nat.le_of_ble_eq_true rfl) (Nat.le_of_ble_eq_true rfl) ?_
      exact g_iret C hr d_Ct_walk_57 ⟨by omega, (by rw [show (s 0 0 2).toNat = nl by omega, show ((i : Nat) : Int).toNat = i by omega, show ((j : Nat) : Int).toNat = j by omega]; exact hz5), rfl⟩
    · exact g_throw C hl0 (cls := xIA) (text := "no such place") (by decide +kernel) cl_Ct_76 ini_IA (by decide +kernel) at_IA1 at_IA2 at_IA3 hex d_Ct_walk_22 d_Ct_walk_25 d_Ct_walk_26 d_Ct_walk_28 d_Ct_walk_31 ⟨Nat.le_of_ble_eq_true rfl, Nat.le_of_ble_eq_true rfl, Nat.le_of_ble_eq_true rfl, Nat.le_of_ble_eq_true rfl⟩ (Nat.le_of_ble_eq_true rfl) (Nat.le_of_ble_eq_true rfl) ⟨rfl, by omega⟩
set_option maxHeartbeats 4000000 in
set_option maxRecDepth 100000 in
theorem ct_Ct_due (l : Launch) (hl0 : l.stackTraces = false) (D : va_G) (tys : xK) (A : Nat → Prop) (M : Wm) (hT : tyOK tys) (x : Nat) (s : AS) (z1_ : Int) (hz1 : (-2147483648 ≤ z1_ ∧ z1_ < 2147483648)) (hR : RC tys M x s) : xT l y_Ct_due b_Ct_due 2 (some .int) { frames := 6, cells := 1, slots := 6, locals := 90 } D tys A [.ref x, .int (iI z1_)] M (qI D A (fun z M' => (0 ≤ z1_ ∧ z1_ < s 0 0 3) ∧ z = sDue (s 3 z1_.toNat) ∧ M' = M)) (fun E => E = xIA ∧ ¬ (0 ≤ z1_ ∧ z1_ < s 0 0 3)) 1 6 := by
  refine xet_of (own := R_Ct) (lv := [(0, .ref x), (1, .int (iI z1_))]) rfl (by decide) (Nat.le_of_ble_eq_true rfl) rfl ?_
  intro p_ e_ s_ m_ bl_ me_ c_ C hr hex
  have hT9 := hT
  obtain ⟨hT0, hT1, hT2, hT3, hT4, hT5, hT32, hT42, hT52, hT43, hT53, hT54⟩ := hT
  have hR0 := hR
  obtain ⟨np, nl, nt, ns, ho, pa, la, ta, rk, ea, sa, pn, ca, ga, ra, to, oa, gp, gl, gt, gr, ge, gc, so, L, T, c0, hS, ⟨hx, hho, hpa, hla, hta, hrk, hea, hsa, hpn, hca, hga, hra, hoa⟩, ⟨n1, n2, n3, n4, n5, n6, n7, n8, n9⟩, ⟨hLb, hTb, hL63⟩, hPo, hRT⟩ := hR
  have hS0 := hS
  obtain ⟨⟨e1, e2, e3, e4⟩, ⟨b1_, b2_, b3_, b4_⟩, b5_, okp, oklf, okt, oku, oksp, okg, oku6⟩ := hS
  have hps := Ps_of hS0 hPo
  have hH := Ho_of (tys := tys) hS0 hPo hho hla
  have hlok := hH.2.1
  refine g_aload_n C d_Ct_due_0 0 rfl ?_
  refine g_iload_n C d_Ct_due_1 1 rfl ?_
  refine g_calliP C (run_V C [.int (iI z1_)] k_Ct_149 (ct_Ct_isPart l D tys A M x ho ta rk ea sa pn to nt ns (s 0 0 0) z1_ (by omega) b3_ hx) hx ⟨rfl, rfl, Nat.le_of_ble_eq_true rfl, Nat.le_of_ble_eq_true rfl⟩ rfl rfl (Nat.le_of_ble_eq_true rfl) d_Ct_due_2 ⟨Nat.le_of_ble_eq_true rfl, Nat.le_of_ble_eq_true rfl⟩) (fun z1 hz1 => ?_)
  refine g_if_ne C 18 d_Ct_due_5 rfl (by omega) (fun c2 => ?_) (fun c2 => ?_)
  · obtain ⟨i, rfl⟩ : ∃ i : Nat, z1_ = (i : Int) := ⟨z1_.toNat, by omega⟩
    obtain ⟨b1, hs1, hpk1, htk1, pa1, hb1, hpa1⟩ := hps.2 i (by omega)
    have htk91 := htk1
    unfold okT at htk91
    refine g_aload_n C d_Ct_due_18 0 rfl ?_
    refine g_get C f_Ct_18 hx rfl d_Ct_due_19 ?_
    refine g_iload_n C d_Ct_due_22 1 rfl ?_
    refine g_aald C 4 hT4 hta (by omega) (by rw [show ((i : Nat) : Int).toNat = i by omega]; exact hs1) d_Ct_due_23 ?_
    refine g_calliP C (run_V C [] k_Ct_278 (ct_Pt_dueDay l D tys A M b1 (i : Int) pa1 (s 3 i) htk1 hb1) hb1 ⟨rfl, rfl, Nat.le_of_ble_eq_true rfl, Nat.le_of_ble_eq_true rfl⟩ rfl rfl (Nat.le_of_ble_eq_true rfl) d_Ct_due_24 ⟨Nat.le_of_ble_eq_true rfl, Nat.le_of_ble_eq_true rfl⟩) (fun z3 hz3 => ?_)
    have hbz3 := sDue_b htk1
    refine g_xret ?_
    refine g_widen (k := 1) (n := 6) (Nat.le_of_ble_eq_true rfl) (Nat.le_of_ble_eq_true rfl) ?_
    exact g_iret C hr d_Ct_due_27 ⟨by omega, (by rw [show ((i : Nat) : Int).toNat = i by omega]; exact hz3), rfl⟩
  · exact g_throw C hl0 (cls := xIA) (text := "no such part") (by decide +kernel) cl_Ct_76 ini_IA (by decide +kernel) at_IA1 at_IA2 at_IA3 hex d_Ct_due_8 d_Ct_due_11 d_Ct_due_12 d_Ct_due_14 d_Ct_due_17 ⟨Nat.le_of_ble_eq_true rfl, Nat.le_of_ble_eq_true rfl, Nat.le_of_ble_eq_true rfl, Nat.le_of_ble_eq_true rfl⟩ (Nat.le_of_ble_eq_true rfl) (Nat.le_of_ble_eq_true rfl) ⟨rfl, by omega⟩
set_option maxHeartbeats 4000000 in
set_option maxRecDepth 100000 in
theorem ct_Ct_stop (l : Launch) (hl0 : l.stackTraces = false) (D : va_G) (tys : xK) (A : Nat → Prop) (M : Wm) (hT : tyOK tys) (x : Nat) (s : AS) (z1_ : Int) (hz1 : (-2147483648 ≤ z1_ ∧ z1_ < 2147483648)) (hR : RC tys M x s) : xT l y_Ct_stop b_Ct_stop 2 (some .int) { frames := 6, cells := 1, slots := 6, locals := 90 } D tys A [.ref x, .int (iI z1_)] M (qI D A (fun z M' => (0 ≤ z1_ ∧ z1_ < s 0 0 7) ∧ z = s 6 0 z1_.toNat ∧ M' = M)) (fun E => E = xIA ∧ ¬ (0 ≤ z1_ ∧ z1_ < s 0 0 7)) 1 6 := by
  refine xet_of (own := R_Ct) (lv := [(0, .ref x), (1, .int (iI z1_))]) rfl (by decide) (Nat.le_of_ble_eq_true rfl) rfl ?_
  intro p_ e_ s_ m_ bl_ me_ c_ C hr hex
  have hT9 := hT
  obtain ⟨hT0, hT1, hT2, hT3, hT4, hT5, hT32, hT42, hT52, hT43, hT53, hT54⟩ := hT
  have hR0 := hR
  obtain ⟨np, nl, nt, ns, ho, pa, la, ta, rk, ea, sa, pn, ca, ga, ra, to, oa, gp, gl, gt, gr, ge, gc, so, L, T, c0, hS, ⟨hx, hho, hpa, hla, hta, hrk, hea, hsa, hpn, hca, hga, hra, hoa⟩, ⟨n1, n2, n3, n4, n5, n6, n7, n8, n9⟩, ⟨hLb, hTb, hL63⟩, hPo, hRT⟩ := hR
  have hS0 := hS
  obtain ⟨⟨e1, e2, e3, e4⟩, ⟨b1_, b2_, b3_, b4_⟩, b5_, okp, oklf, okt, oku, oksp, okg, oku6⟩ := hS
  have hps := Ps_of hS0 hPo
  have hH := Ho_of (tys := tys) hS0 hPo hho hla
  have hlok := hH.2.1
  rcases hRT with ⟨hw5, ⟨c7, c8, c9, c10⟩, d0, hto⟩ | ⟨w, gq, cn, dn, hw5, hwn, hge, c7, c8, hcd, h6, hlegs, c9, c10, hto, hso⟩
  · have hcase := hw5
    refine g_iload_n C d_Ct_stop_0 1 rfl ?_
    refine g_iconst C d_Ct_stop_1 ?_
    refine g_aload_n C d_Ct_stop_2 0 rfl ?_
    refine g_get C f_Ct_45 hx rfl d_Ct_stop_3 ?_
    refine g_get C f_Ct_208 hto rfl d_Ct_stop_6 ?_
    refine g_iconst C d_Ct_stop_9 ?_
    refine g_isub C d_Ct_stop_10 ?_
    refine g_calliP C (run_S C [.int (iI z1_), .int (iI 0), .int (iI (0 - 1))] k_Ct_68 (ct_Ct_within l D tys A M z1_ 0 (0 - 1) (by omega)) ⟨rfl, rfl, Nat.le_of_ble_eq_true rfl, Nat.le_of_ble_eq_true rfl⟩ rfl rfl (Nat.le_of_ble_eq_true rfl) d_Ct_stop_11 ⟨Nat.le_of_ble_eq_true rfl, Nat.le_of_ble_eq_true rfl⟩) (fun z1 hz1 => ?_)
    refine g_if_ne C 27 d_Ct_stop_14 rfl (by omega) (fun c2 => ?_) (fun c2 => ?_)
    · exfalso; omega
    · exact g_throw C hl0 (cls := xIA) (text := "no such stop") (by decide +kernel) cl_Ct_76 ini_IA (by decide +kernel) at_IA1 at_IA2 at_IA3 hex d_Ct_stop_17 d_Ct_stop_20 d_Ct_stop_21 d_Ct_stop_23 d_Ct_stop_26 ⟨Nat.le_of_ble_eq_true rfl, Nat.le_of_ble_eq_true rfl, Nat.le_of_ble_eq_true rfl, Nat.le_of_ble_eq_true rfl⟩ (Nat.le_of_ble_eq_true rfl) (Nat.le_of_ble_eq_true rfl) ⟨rfl, by omega⟩
  · have hTA := To_of (tys := tys) hS0 hPo hwn hge hcd hto hoa hso
    obtain ⟨gq2, hgq, hphw, huw, hmw, hgq1, hhm⟩ := Pe_of hS0 hPo w hwn
    rw [hge] at hgq
    cases hgq
    refine g_iload_n C d_Ct_stop_0 1 rfl ?_
    refine g_iconst C d_Ct_stop_1 ?_
    refine g_aload_n C d_Ct_stop_2 0 rfl ?_
    refine g_get C f_Ct_45 hx rfl d_Ct_stop_3 ?_
    refine g_get C f_Ct_208 hto rfl d_Ct_stop_6 ?_
    refine g_iconst C d_Ct_stop_9 ?_
    refine g_isub C d_Ct_stop_10 ?_
    refine g_calliP C (run_S C [.int (iI z1_), .int (iI 0), .int (iI (((cn : Int)) - 1))] k_Ct_68 (ct_Ct_within l D tys A M z1_ 0 (((cn : Int)) - 1) (by omega)) ⟨rfl, rfl, Nat.le_of_ble_eq_true rfl, Nat.le_of_ble_eq_true rfl⟩ rfl rfl (Nat.le_of_ble_eq_true rfl) d_Ct_stop_11 ⟨Nat.le_of_ble_eq_true rfl, Nat.le_of_ble_eq_true rfl⟩) (fun z3 hz3 => ?_)
    refine g_if_ne C 27 d_Ct_stop_14 rfl (by omega) (fun c4 => ?_) (fun c4 => ?_)
    · obtain ⟨i, rfl⟩ : ∃ i : Nat, z1_ = (i : Int) := ⟨z1_.toNat, by omega⟩
      obtain ⟨hi6, hi7⟩ := hso i (by omega)
      obtain ⟨b1, hs1, hpk1, htk1, pa1, hb1, hpa1⟩ := hps.2 (s 6 0 i).toNat (by omega)
      refine g_aload_n C d_Ct_stop_27 0 rfl ?_
      refine g_get C f_Ct_45 hx rfl d_Ct_stop_28 ?_
      refine g_get C f_Ct_213 hto rfl d_Ct_stop_31 ?_
      refine g_iload_n C d_Ct_stop_34 1 rfl ?_
      refine g_aald C 4 hT4 hoa (by omega) (by rw [show ((i : Nat) : Int).toNat = i by omega, hi7]; exact hs1) d_Ct_stop_35 ?_
      refine g_get C f_Ct_216 hb1 rfl d_Ct_stop_36 ?_
      refine g_xret ?_
      refine g_widen (k := 1) (n := 6) (Nat.le_of_ble_eq_true rfl) (Nat.le_of_ble_eq_true rfl) ?_
      exact g_iret C hr d_Ct_stop_39 ⟨by omega, (by rw [show ((i : Nat) : Int).toNat = i by omega]; omega), rfl⟩
    · exact g_throw C hl0 (cls := xIA) (text := "no such stop") (by decide +kernel) cl_Ct_76 ini_IA (by decide +kernel) at_IA1 at_IA2 at_IA3 hex d_Ct_stop_17 d_Ct_stop_20 d_Ct_stop_21 d_Ct_stop_23 d_Ct_stop_26 ⟨Nat.le_of_ble_eq_true rfl, Nat.le_of_ble_eq_true rfl, Nat.le_of_ble_eq_true rfl, Nat.le_of_ble_eq_true rfl⟩ (Nat.le_of_ble_eq_true rfl) (Nat.le_of_ble_eq_true rfl) ⟨rfl, by omega⟩
set_option maxHeartbeats 4000000 in
set_option maxRecDepth 100000 in
theorem ct_Ct_told (l : Launch) (hl0 : l.stackTraces = false) (D : va_G) (tys : xK) (A : Nat → Prop) (M : Wm) (hT : tyOK tys) (x : Nat) (s : AS) (z1_ : Int) (hz1 : (-2147483648 ≤ z1_ ∧ z1_ < 2147483648)) (hR : RC tys M x s) : xT l y_Ct_told b_Ct_told 2 (some .int) { frames := 6, cells := 1, slots := 6, locals := 90 } D tys A [.ref x, .int (iI z1_)] M (qI D A (fun z M' => (0 ≤ z1_ ∧ z1_ ≤ 4) ∧ ((z1_ = 0 ∧ z = s 0 0 7) ∨ (z1_ = 1 ∧ z = s 0 0 9) ∨ (z1_ = 2 ∧ z = s 0 0 10) ∨ (z1_ = 3 ∧ z = s 0 0 8) ∨ (z1_ = 4 ∧ z = s 0 0 5)) ∧ M' = M)) (fun E => E = xIA ∧ ¬ (0 ≤ z1_ ∧ z1_ ≤ 4)) 1 6 := by
  refine xet_of (own := R_Ct) (lv := [(0, .ref x), (1, .int (iI z1_))]) rfl (by decide) (Nat.le_of_ble_eq_true rfl) rfl ?_
  intro p_ e_ s_ m_ bl_ me_ c_ C hr hex
  have hT9 := hT
  obtain ⟨hT0, hT1, hT2, hT3, hT4, hT5, hT32, hT42, hT52, hT43, hT53, hT54⟩ := hT
  have hR0 := hR
  obtain ⟨np, nl, nt, ns, ho, pa, la, ta, rk, ea, sa, pn, ca, ga, ra, to, oa, gp, gl, gt, gr, ge, gc, so, L, T, c0, hS, ⟨hx, hho, hpa, hla, hta, hrk, hea, hsa, hpn, hca, hga, hra, hoa⟩, ⟨n1, n2, n3, n4, n5, n6, n7, n8, n9⟩, ⟨hLb, hTb, hL63⟩, hPo, hRT⟩ := hR
  have hS0 := hS
  obtain ⟨⟨e1, e2, e3, e4⟩, ⟨b1_, b2_, b3_, b4_⟩, b5_, okp, oklf, okt, oku, oksp, okg, oku6⟩ := hS
  have hps := Ps_of hS0 hPo
  have hH := Ho_of (tys := tys) hS0 hPo hho hla
  have hlok := hH.2.1
  rcases hRT with ⟨hw5, ⟨c7, c8, c9, c10⟩, d0, hto⟩ | ⟨w, gq, cn, dn, hw5, hwn, hge, c7, c8, hcd, h6, hlegs, c9, c10, hto, hso⟩
  · have hcase := hw5
    refine g_iload_n C d_Ct_told_0 1 rfl ?_
    rcases (show z1_ = 0 ∨ z1_ = 1 ∨ z1_ = 2 ∨ z1_ = 3 ∨ z1_ = 4 ∨ (z1_ < 0 ∨ 4 < z1_) by omega) with hz9 | hz9 | hz9 | hz9 | hz9 | hz9
    · refine g_tabIn C 36 d_Ct_told_1 (by omega) (by omega) (by rw [hz9]; rfl) rfl ?_
      refine g_aload_n C d_Ct_told_36 0 rfl ?_
      refine g_get C f_Ct_45 hx rfl d_Ct_told_37 ?_
      refine g_get C f_Ct_208 hto rfl d_Ct_told_40 ?_
      refine g_xret ?_
      refine g_widen (k := 1) (n := 6) (Nat.le_of_ble_eq_true rfl) (Nat.le_of_ble_eq_true rfl) ?_
      exact g_iret C hr d_Ct_told_43 ⟨by omega, by omega, rfl⟩
    · refine g_tabIn C 44 d_Ct_told_1 (by omega) (by omega) (by rw [hz9]; rfl) rfl ?_
      refine g_aload_n C d_Ct_told_44 0 rfl ?_
      refine g_get C f_Ct_45 hx rfl d_Ct_told_45 ?_
      refine g_get C f_Ct_219 hto rfl d_Ct_told_48 ?_
      refine g_xret ?_
      refine g_widen (k := 1) (n := 6) (Nat.le_of_ble_eq_true rfl) (Nat.le_of_ble_eq_true rfl) ?_
      exact g_iret C hr d_Ct_told_51 ⟨by omega, by omega, rfl⟩
    · refine g_tabIn C 52 d_Ct_told_1 (by omega) (by omega) (by rw [hz9]; rfl) rfl ?_
      refine g_aload_n C d_Ct_told_52 0 rfl ?_
      refine g_get C f_Ct_45 hx rfl d_Ct_told_53 ?_
      refine g_get C f_Ct_222 hto rfl d_Ct_told_56 ?_
      refine g_xret ?_
      refine g_widen (k := 1) (n := 6) (Nat.le_of_ble_eq_true rfl) (Nat.le_of_ble_eq_true rfl) ?_
      exact g_iret C hr d_Ct_told_59 ⟨by omega, by omega, rfl⟩
    · refine g_tabIn C 60 d_Ct_told_1 (by omega) (by omega) (by rw [hz9]; rfl) rfl ?_
      refine g_aload_n C d_Ct_told_60 0 rfl ?_
      refine g_get C f_Ct_45 hx rfl d_Ct_told_61 ?_
      refine g_get C f_Ct_225 hto rfl d_Ct_told_64 ?_
      refine g_xret ?_
      refine g_widen (k := 1) (n := 6) (Nat.le_of_ble_eq_true rfl) (Nat.le_of_ble_eq_true rfl) ?_
      exact g_iret C hr d_Ct_told_67 ⟨by omega, by omega, rfl⟩
    · refine g_tabIn C 68 d_Ct_told_1 (by omega) (by omega) (by rw [hz9]; rfl) rfl ?_
      refine g_aload_n C d_Ct_told_68 0 rfl ?_
      refine g_get C f_Ct_45 hx rfl d_Ct_told_69 ?_
      refine g_get C f_Ct_228 hto rfl d_Ct_told_72 ?_
      refine g_ifnonnullN C d_Ct_told_75 ?_
      refine g_iconst C d_Ct_told_78 ?_
      refine g_goto C 92 d_Ct_told_79 rfl ?_
      refine g_xret ?_
      refine g_widen (k := 1) (n := 6) (Nat.le_of_ble_eq_true rfl) (Nat.le_of_ble_eq_true rfl) ?_
      exact g_iret C hr d_Ct_told_92 ⟨by omega, by omega, rfl⟩
    · refine g_tabOut C 93 d_Ct_told_1 (by omega) (by omega) rfl ?_
      exact g_throw C hl0 (cls := xIA) (text := "nothing of that number is told") (by decide +kernel) cl_Ct_76 ini_IA (by decide +kernel) at_IA1 at_IA2 at_IA3 hex d_Ct_told_93 d_Ct_told_96 d_Ct_told_97 d_Ct_told_99 d_Ct_told_102 ⟨Nat.le_of_ble_eq_true rfl, Nat.le_of_ble_eq_true rfl, Nat.le_of_ble_eq_true rfl, Nat.le_of_ble_eq_true rfl⟩ (Nat.le_of_ble_eq_true rfl) (Nat.le_of_ble_eq_true rfl) ⟨rfl, by omega⟩
  · have hTA := To_of (tys := tys) hS0 hPo hwn hge hcd hto hoa hso
    obtain ⟨gq2, hgq, hphw, huw, hmw, hgq1, hhm⟩ := Pe_of hS0 hPo w hwn
    rw [hge] at hgq
    cases hgq
    refine g_iload_n C d_Ct_told_0 1 rfl ?_
    rcases (show z1_ = 0 ∨ z1_ = 1 ∨ z1_ = 2 ∨ z1_ = 3 ∨ z1_ = 4 ∨ (z1_ < 0 ∨ 4 < z1_) by omega) with hz9 | hz9 | hz9 | hz9 | hz9 | hz9
    · refine g_tabIn C 36 d_Ct_told_1 (by omega) (by omega) (by rw [hz9]; rfl) rfl ?_
      refine g_aload_n C d_Ct_told_36 0 rfl ?_
      refine g_get C f_Ct_45 hx rfl d_Ct_told_37 ?_
      refine g_get C f_Ct_208 hto rfl d_Ct_told_40 ?_
      refine g_xret ?_
      refine g_widen (k := 1) (n := 6) (Nat.le_of_ble_eq_true rfl) (Nat.le_of_ble_eq_true rfl) ?_
      exact g_iret C hr d_Ct_told_43 ⟨by omega, by omega, rfl⟩
    · refine g_tabIn C 44 d_Ct_told_1 (by omega) (by omega) (by rw [hz9]; rfl) rfl ?_
      refine g_aload_n C d_Ct_told_44 0 rfl ?_
      refine g_get C f_Ct_45 hx rfl d_Ct_told_45 ?_
      refine g_get C f_Ct_219 hto rfl d_Ct_told_48 ?_
      refine g_xret ?_
      refine g_widen (k := 1) (n := 6) (Nat.le_of_ble_eq_true rfl) (Nat.le_of_ble_eq_true rfl) ?_
      exact g_iret C hr d_Ct_told_51 ⟨by omega, by omega, rfl⟩
    · refine g_tabIn C 52 d_Ct_told_1 (by omega) (by omega) (by rw [hz9]; rfl) rfl ?_
      refine g_aload_n C d_Ct_told_52 0 rfl ?_
      refine g_get C f_Ct_45 hx rfl d_Ct_told_53 ?_
      refine g_get C f_Ct_222 hto rfl d_Ct_told_56 ?_
      refine g_xret ?_
      refine g_widen (k := 1) (n := 6) (Nat.le_of_ble_eq_true rfl) (Nat.le_of_ble_eq_true rfl) ?_
      exact g_iret C hr d_Ct_told_59 ⟨by omega, by omega, rfl⟩
    · refine g_tabIn C 60 d_Ct_told_1 (by omega) (by omega) (by rw [hz9]; rfl) rfl ?_
      refine g_aload_n C d_Ct_told_60 0 rfl ?_
      refine g_get C f_Ct_45 hx rfl d_Ct_told_61 ?_
      refine g_get C f_Ct_225 hto rfl d_Ct_told_64 ?_
      refine g_xret ?_
      refine g_widen (k := 1) (n := 6) (Nat.le_of_ble_eq_true rfl) (Nat.le_of_ble_eq_true rfl) ?_
      exact g_iret C hr d_Ct_told_67 ⟨by omega, by omega, rfl⟩
    · refine g_tabIn C 68 d_Ct_told_1 (by omega) (by omega) (by rw [hz9]; rfl) rfl ?_
      refine g_aload_n C d_Ct_told_68 0 rfl ?_
      refine g_get C f_Ct_45 hx rfl d_Ct_told_69 ?_
      refine g_get C f_Ct_228 hto rfl d_Ct_told_72 ?_
      refine g_ifnonnull C 82 d_Ct_told_75 rfl ?_
      refine g_aload_n C d_Ct_told_82 0 rfl ?_
      refine g_get C f_Ct_45 hx rfl d_Ct_told_83 ?_
      refine g_get C f_Ct_228 hto rfl d_Ct_told_86 ?_
      refine g_get C f_Ct_232 hgq1 rfl d_Ct_told_89 ?_
      refine g_xret ?_
      refine g_widen (k := 1) (n := 6) (Nat.le_of_ble_eq_true rfl) (Nat.le_of_ble_eq_true rfl) ?_
      exact g_iret C hr d_Ct_told_92 ⟨by omega, by omega, rfl⟩
    · refine g_tabOut C 93 d_Ct_told_1 (by omega) (by omega) rfl ?_
      exact g_throw C hl0 (cls := xIA) (text := "nothing of that number is told") (by decide +kernel) cl_Ct_76 ini_IA (by decide +kernel) at_IA1 at_IA2 at_IA3 hex d_Ct_told_93 d_Ct_told_96 d_Ct_told_97 d_Ct_told_99 d_Ct_told_102 ⟨Nat.le_of_ble_eq_true rfl, Nat.le_of_ble_eq_true rfl, Nat.le_of_ble_eq_true rfl, Nat.le_of_ble_eq_true rfl⟩ (Nat.le_of_ble_eq_true rfl) (Nat.le_of_ble_eq_true rfl) ⟨rfl, by omega⟩
