/-! THE CHOICE of a tour's parts: written by program (wip/whole/gen/choose.py) -/
theorem PsA_up {M : Wm} {nt a : Nat} {gt : Nat → Option Nat} {pp tt : Nat → Nat → Int} {e x : va_E} (h : PsA M nt gt pp tt) (ha : M a = some e) (hk : cok e) : PsA (va_up M a (some x)) nt gt pp tt := by
  refine ⟨h.1, fun k hkn => ?_⟩
  obtain ⟨b, h2, h3⟩ := h.2 k hkn
  exact ⟨b, h2, PtA_up h3 ha hk⟩
set_option maxHeartbeats 4000000 in
set_option maxRecDepth 100000 in
theorem ct_Ct_choose (l : Launch) (D : va_G) (tys : xK) (A : Nat → Prop) (M : Wm) (hT : tyOK tys) (x ho ta rk ea sa pn to nt ns : Nat) (rt : Int) (gt gr : Nat → Option Nat) (pp tt : Nat → Nat → Int) (hx : M x = some (.inr (7, [.int (iI rt), .ref ho, .ref ta, .ref rk, .ref ea, .ref sa, .ref pn, .ref to, .int (iI ((nt : Int))), .int (iI ((ns : Int)))]))) (hta : M ta = some (aR tys 4 40 gt)) (hrk : M rk = some (aR tys 4 40 gr)) (htr : ta ≠ rk) (hps : PsA M nt gt pp tt) (ca ga ra : Nat) (c0 : Int) (gc : Nat → Option Nat) (hpn : M pn = some (.inr (5, [.ref ca, .ref ga, .ref ra, .int (iI c0)]))) (hca : M ca = some (aR tys 4 7 gc)) (hcr : ca ≠ rk) (hct : ca ≠ ta) (nl : Nat) (lf : Nat → Nat → Int) (hH : HoA tys M ho nl lf) (e0 hm : Nat) (n0 : Int) (ph u : Nat → Int) (hph : okP ph) (hu : okU u) (he0 : M e0 = some (oPe n0 hm u)) (hhm : M hm = some (oPl ph)) (dy : Int) (hdy : 0 ≤ dy ∧ dy ≤ 100000) : mT l y_Ct_choose b_Ct_choose 5 none { frames := 4, cells := 0, slots := 0, locals := 91 } D tys A [.ref x, .ref e0, .int (iI dy)] M (qV D A (fun M' => ∃ (g gC : Nat → Option Nat) (Lq C_ : List Nat), Rk (fun k_ => sDue (tt k_)) nt gt g Lq ∧ C_ = (Lq.filter (el nl lf ph u dy pp tt)).take 7 ∧ (∀ k, k < C_.length → gC k = gt (C_.getD k 0)) ∧ M' = va_up (va_up (va_up M rk (some (.inl (tc tys 4, 40, .inr (.inr (.inr (.inr g))))))) ca (some (.inl (tc tys 4, 7, .inr (.inr (.inr (.inr gC))))))) pn (some (.inr (5, [.ref ca, .ref ga, .ref ra, .int (iI (((C_.length : Nat) : Int)))]))))) 0 0 := by
  refine met_of (own := R_Ct) (lv := [(0, .ref x), (1, .ref e0), (2, .int (iI dy))]) rfl (by decide) (Nat.le_of_ble_eq_true rfl) rfl ?_
  intro p_ e_ s_ m_ bl_ me_ c_ C hr hin
  have hT9 := hT
  obtain ⟨hT0, hT1, hT2, hT3, hT4, hT5, hT32, hT42, hT52, hT43, hT53, hT54⟩ := hT
  have hnt := hps.1
  have hlok := hH.2.1
  obtain ⟨-, -, pa9, la9, np9, gl9, hh9, -⟩ := id hH
  have hu9 := hu
  unfold okU at hu9
  refine g_aload_n C d_Ct_choose_0 0 rfl ?_
  refine g_get C f_Ct_38 hx rfl d_Ct_choose_1 ?_
  refine g_callv C (run_V C [] k_Ct_292 (ct_Pn_clear l D tys A M pn ca ga ra c0 hpn) hpn ⟨rfl, rfl, Nat.le_of_ble_eq_true rfl, Nat.le_of_ble_eq_true rfl⟩ rfl rfl (Nat.le_of_ble_eq_true rfl) d_Ct_choose_4 ⟨Nat.le_of_ble_eq_true rfl, Nat.le_of_ble_eq_true rfl⟩) (fun M1 hM1 => ?_)
  subst hM1
  refine g_aload_n C d_Ct_choose_7 0 rfl ?_
  refine g_callv C (run_V C [] k_Ct_284 (ct_Ct_rankByDueDays l D tys A (va_up M pn (some (.inr (5, [.ref ca, .ref ga, .ref ra, .int (iI 0)])))) hT9 x ho ta rk ea sa pn to nt ns rt gt gr pp tt ((wd_up_n (ne_oo hx hpn (by decide))).trans hx) ((wd_up_n (Ne.symm (ne_oa hpn hta))).trans hta) ((wd_up_n (Ne.symm (ne_oa hpn hrk))).trans hrk) htr (PsA_up hps hpn ⟨by show (5 : Nat) ≠ 2; decide, by show (5 : Nat) ≠ 4; decide⟩)) ((wd_up_n (ne_oo hx hpn (by decide))).trans hx) ⟨rfl, rfl, Nat.le_of_ble_eq_true rfl, Nat.le_of_ble_eq_true rfl⟩ rfl rfl (Nat.le_of_ble_eq_true rfl) d_Ct_choose_8 ⟨Nat.le_of_ble_eq_true rfl, Nat.le_of_ble_eq_true rfl⟩) (fun M2 hM2 => ?_)
  obtain ⟨gR, Lq, hRk, rfl⟩ := hM2
  refine g_world (up_comm (ne_oa hpn hrk)) ?_
  refine g_iconst C d_Ct_choose_11 ?_
  refine g_istore_n (lv' := [(3, .int (iI 0)), (0, .ref x), (1, .ref e0), (2, .int (iI dy))]) C d_Ct_choose_12 (by decide) rfl ?_
  refine g_world (M' := va_up (va_up (va_up M rk (some (aR tys 4 40 gR))) ca (some (aR tys 4 7 gc))) pn (some (.inr (5, [.ref ca, .ref ga, .ref ra, .int (iI 0)])))) (by rw [up_same ((wd_up_n hcr).trans hca)]) ?_
  refine g_sub [1, 2, 3, 0] rfl (g_loop (σ := Nat × List Nat × (Nat → Option Nat)) (fun q_ => nt - q_.1) (fun q_ => (q_.1 ≤ nt) ∧ (q_.2.1 = (Lq.take q_.1).filter (el nl lf ph u dy pp tt)) ∧ (q_.2.1.length ≤ 7) ∧ (∀ k_, k_ < q_.2.1.length → q_.2.2 k_ = gt (q_.2.1.getD k_ 0))) (fun q_ => [(0, .ref x), (1, .ref e0), (2, .int (iI dy)), (3, .int (iI ((q_.1 : Int))))]) (fun q_ => (va_up (va_up (va_up M rk (some (.inl (tc tys 4, 40, .inr (.inr (.inr (.inr gR))))))) ca (some (.inl (tc tys 4, 7, .inr (.inr (.inr (.inr q_.2.2))))))) pn (some (.inr (5, [.ref ca, .ref ga, .ref ra, .int (iI (((q_.2.1.length : Nat) : Int)))]))))) ?_ (0, [], gc) (⟨Nat.zero_le _, rfl, Nat.zero_le _, (fun k_ hk_ => absurd hk_ (Nat.not_lt_zero k_))⟩))
  intro x_ hI ih13
  obtain ⟨i, C_, gC⟩ := x_
  try dsimp only at hI ih13 ⊢
  obtain ⟨hi0, hC, hC7, hgC⟩ := hI
  refine g_iload_n C d_Ct_choose_13 3 rfl ?_
  refine g_aload_n C d_Ct_choose_14 0 rfl ?_
  refine g_get C f_Ct_49 ((wd_up_n (ne_oo hx hpn (by decide))).trans ((wd_up_n (ne_oa hx hca)).trans ((wd_up_n (ne_oa hx hrk)).trans hx))) rfl d_Ct_choose_15 ?_
  refine g_icmp_ge C 95 d_Ct_choose_18 rfl (by omega) (fun c3 => ?_) (fun c3 => ?_)
  · exact g_vret C hr d_Ct_choose_95 ⟨gR, gC, Lq, C_, hRk, (by rw [hC]; exact fl_7 (by rw [← hC]; exact hC7) (by rw [← hC, hRk.len]; omega)), hgC, rfl⟩
  · refine g_aload_n C d_Ct_choose_21 0 rfl ?_
    refine g_get C f_Ct_38 ((wd_up_n (ne_oo hx hpn (by decide))).trans ((wd_up_n (ne_oa hx hca)).trans ((wd_up_n (ne_oa hx hrk)).trans hx))) rfl d_Ct_choose_22 ?_
    refine g_calliP C (run_V C [] k_Ct_295 (ct_Pn_isFull l D tys A (va_up (va_up (va_up M rk (some (.inl (tc tys 4, 40, .inr (.inr (.inr (.inr gR))))))) ca (some (.inl (tc tys 4, 7, .inr (.inr (.inr (.inr gC))))))) pn (some (.inr (5, [.ref ca, .ref ga, .ref ra, .int (iI (((C_.length : Nat) : Int)))])))) pn ca ga ra ((C_.length : Nat) : Int) (by omega) wd_up_s) wd_up_s ⟨rfl, rfl, Nat.le_of_ble_eq_true rfl, Nat.le_of_ble_eq_true rfl⟩ rfl rfl (Nat.le_of_ble_eq_true rfl) d_Ct_choose_25 ⟨Nat.le_of_ble_eq_true rfl, Nat.le_of_ble_eq_true rfl⟩) (fun z4 hz4 => ?_)
    refine g_if_ne C 95 d_Ct_choose_28 rfl (by omega) (fun c5 => ?_) (fun c5 => ?_)
    · exact g_vret C hr d_Ct_choose_95 ⟨gR, gC, Lq, C_, hRk, (by rw [hC]; exact fl_7 (by rw [← hC]; exact hC7) (by rw [← hC, hRk.len]; omega)), hgC, rfl⟩
    · have hlt9 := hRk.lt (k := i) (by omega)
      obtain ⟨b1, hs1, hpk1, htk1, pa1, hb1, hpa1⟩ := hps.2 ((Lq.getD i 0)) (by omega)
      have htk9 := htk1
      unfold okT at htk9
      refine g_aload_n C d_Ct_choose_31 0 rfl ?_
      refine g_get C f_Ct_22 ((wd_up_n (ne_oo hx hpn (by decide))).trans ((wd_up_n (ne_oa hx hca)).trans ((wd_up_n (ne_oa hx hrk)).trans hx))) rfl d_Ct_choose_32 ?_
      refine g_iload_n C d_Ct_choose_35 3 rfl ?_
      refine g_aald C 4 hT4 ((wd_up_n (Ne.symm (ne_oa hpn hrk))).trans ((wd_up_n (Ne.symm hcr)).trans wd_up_s)) (by omega) (by rw [show ((i : Nat) : Int).toNat = i by omega, hRk.2.2 i (by omega)]; exact hs1) d_Ct_choose_36 ?_
      refine g_astore (lv' := [(4, .ref b1), (0, .ref x), (1, .ref e0), (2, .int (iI dy)), (3, .int (iI ((i : Int))))]) C d_Ct_choose_37 (by decide) rfl ?_
      refine g_aload C d_Ct_choose_39 0 rfl ?_
      refine g_calliP C (run_V C [] k_Ct_278 (ct_Pt_dueDay l D tys A (va_up (va_up (va_up M rk (some (.inl (tc tys 4, 40, .inr (.inr (.inr (.inr gR))))))) ca (some (.inl (tc tys 4, 7, .inr (.inr (.inr (.inr gC))))))) pn (some (.inr (5, [.ref ca, .ref ga, .ref ra, .int (iI (((C_.length : Nat) : Int)))])))) b1 (((Lq.getD i 0) : Nat) : Int) pa1 (tt ((Lq.getD i 0))) htk1 ((wd_up_n (ne_oo hb1 hpn (by decide))).trans ((wd_up_n (ne_oa hb1 hca)).trans ((wd_up_n (ne_oa hb1 hrk)).trans hb1)))) ((wd_up_n (ne_oo hb1 hpn (by decide))).trans ((wd_up_n (ne_oa hb1 hca)).trans ((wd_up_n (ne_oa hb1 hrk)).trans hb1))) ⟨rfl, rfl, Nat.le_of_ble_eq_true rfl, Nat.le_of_ble_eq_true rfl⟩ rfl rfl (Nat.le_of_ble_eq_true rfl) d_Ct_choose_41 ⟨Nat.le_of_ble_eq_true rfl, Nat.le_of_ble_eq_true rfl⟩) (fun z6 hz6 => ?_)
      have hbz6 := sDue_b htk1
      refine g_iload_n C d_Ct_choose_44 3 rfl ?_
      refine g_icmp_gt C 89 d_Ct_choose_45 rfl (by omega) (fun c7 => ?_) (fun c7 => ?_)
      · refine g_iinc (lv' := [(3, .int (iI (((i : Int)) + 1))), (4, .ref b1), (0, .ref x), (1, .ref e0), (2, .int (iI dy))]) C d_Ct_choose_89 4 rfl (by decide) rfl ?_
        refine g_goto C 13 d_Ct_choose_92 rfl ?_
        have hC2 : C_ = (Lq.take (i + 1)).filter (el nl lf ph u dy pp tt) := by
          rw [fl_1 (by rw [hRk.len]; omega), if_neg (by rw [el_iff]; omega)]; exact hC
        exact g_sub [2, 3, 4, 0] rfl (ih13 (i + 1, C_, gC) ⟨by omega, hC2, hC7, hgC⟩ (by first | omega | (dsimp only; omega)))
      · refine g_aload_n C d_Ct_choose_48 2 rfl ?_
        refine g_aload C d_Ct_choose_49 0 rfl ?_
        refine g_get C f_Ct_237 ((wd_up_n (ne_oo hb1 hpn (by decide))).trans ((wd_up_n (ne_oa hb1 hca)).trans ((wd_up_n (ne_oa hb1 hrk)).trans hb1))) rfl d_Ct_choose_51 ?_
        refine g_calliP C (run_V C [.int (iI (tt ((Lq.getD i 0)) 0))] k_Ct_240 (ct_Pe_has l D tys A (va_up (va_up (va_up M rk (some (.inl (tc tys 4, 40, .inr (.inr (.inr (.inr gR))))))) ca (some (.inl (tc tys 4, 7, .inr (.inr (.inr (.inr gC))))))) pn (some (.inr (5, [.ref ca, .ref ga, .ref ra, .int (iI (((C_.length : Nat) : Int)))])))) e0 n0 hm u (tt ((Lq.getD i 0)) 0) hu (by omega) ((wd_up_n (ne_oo he0 hpn (by decide))).trans ((wd_up_n (ne_oa he0 hca)).trans ((wd_up_n (ne_oa he0 hrk)).trans he0)))) ((wd_up_n (ne_oo he0 hpn (by decide))).trans ((wd_up_n (ne_oa he0 hca)).trans ((wd_up_n (ne_oa he0 hrk)).trans he0))) ⟨rfl, rfl, Nat.le_of_ble_eq_true rfl, Nat.le_of_ble_eq_true rfl⟩ rfl rfl (Nat.le_of_ble_eq_true rfl) d_Ct_choose_54 ⟨Nat.le_of_ble_eq_true rfl, Nat.le_of_ble_eq_true rfl⟩) (fun z8 hz8 => ?_)
        refine g_if_eq C 89 d_Ct_choose_57 rfl (by omega) (fun c9 => ?_) (fun c9 => ?_)
        · refine g_iinc (lv' := [(3, .int (iI (((i : Int)) + 1))), (4, .ref b1), (0, .ref x), (1, .ref e0), (2, .int (iI dy))]) C d_Ct_choose_89 4 rfl (by decide) rfl ?_
          refine g_goto C 13 d_Ct_choose_92 rfl ?_
          have hC2 : C_ = (Lq.take (i + 1)).filter (el nl lf ph u dy pp tt) := by
            rw [fl_1 (by rw [hRk.len]; omega), if_neg (by rw [el_iff]; omega)]; exact hC
          exact g_sub [2, 3, 4, 0] rfl (ih13 (i + 1, C_, gC) ⟨by omega, hC2, hC7, hgC⟩ (by first | omega | (dsimp only; omega)))
        · refine g_aload_n C d_Ct_choose_60 1 rfl ?_
          refine g_get C f_Ct_10 ((wd_up_n (ne_oo hx hpn (by decide))).trans ((wd_up_n (ne_oa hx hca)).trans ((wd_up_n (ne_oa hx hrk)).trans hx))) rfl d_Ct_choose_61 ?_
          refine g_aload_n C d_Ct_choose_64 2 rfl ?_
          refine g_get C f_Ct_183 ((wd_up_n (ne_oo he0 hpn (by decide))).trans ((wd_up_n (ne_oa he0 hca)).trans ((wd_up_n (ne_oa he0 hrk)).trans he0))) rfl d_Ct_choose_65 ?_
          refine g_aload C d_Ct_choose_68 0 rfl ?_
          refine g_get C f_Ct_251 ((wd_up_n (ne_oo hb1 hpn (by decide))).trans ((wd_up_n (ne_oa hb1 hca)).trans ((wd_up_n (ne_oa hb1 hrk)).trans hb1))) rfl d_Ct_choose_70 ?_
          refine g_calliP C (run_V C [.ref hm, .ref pa1] k_Ct_173 (ct_Ho_secondsBetween l D tys A (va_up (va_up (va_up M rk (some (.inl (tc tys 4, 40, .inr (.inr (.inr (.inr gR))))))) ca (some (.inl (tc tys 4, 7, .inr (.inr (.inr (.inr gC))))))) pn (some (.inr (5, [.ref ca, .ref ga, .ref ra, .int (iI (((C_.length : Nat) : Int)))])))) hT9 ho hm pa1 nl lf ph (pp ((Lq.getD i 0))) hph hpk1 (HoA_up (HoA_up (HoA_up hH hrk hT43) ((wd_up_n hcr).trans hca) hT43) ((wd_up_n (ne_oa hpn hca)).trans ((wd_up_n (ne_oa hpn hrk)).trans hpn)) ⟨by show (5 : Nat) ≠ 0; decide, by show (5 : Nat) ≠ 1; decide⟩) ((wd_up_n (ne_oo hhm hpn (by decide))).trans ((wd_up_n (ne_oa hhm hca)).trans ((wd_up_n (ne_oa hhm hrk)).trans hhm))) ((wd_up_n (ne_oo hpa1 hpn (by decide))).trans ((wd_up_n (ne_oa hpa1 hca)).trans ((wd_up_n (ne_oa hpa1 hrk)).trans hpa1)))) ((wd_up_n (ne_oo hh9 hpn (by decide))).trans ((wd_up_n (ne_oa hh9 hca)).trans ((wd_up_n (ne_oa hh9 hrk)).trans hh9))) ⟨rfl, rfl, Nat.le_of_ble_eq_true rfl, Nat.le_of_ble_eq_true rfl⟩ rfl rfl (Nat.le_of_ble_eq_true rfl) d_Ct_choose_73 ⟨Nat.le_of_ble_eq_true rfl, Nat.le_of_ble_eq_true rfl⟩) (fun z10 hz10 => ?_)
          have hbz10 := sWay_b (nl := nl) hlok hph hpk1
          refine g_iconst C d_Ct_choose_76 ?_
          refine g_icmp_eq C 89 d_Ct_choose_77 rfl (by omega) (fun c11 => ?_) (fun c11 => ?_)
          · refine g_iinc (lv' := [(3, .int (iI (((i : Int)) + 1))), (4, .ref b1), (0, .ref x), (1, .ref e0), (2, .int (iI dy))]) C d_Ct_choose_89 4 rfl (by decide) rfl ?_
            refine g_goto C 13 d_Ct_choose_92 rfl ?_
            have hC2 : C_ = (Lq.take (i + 1)).filter (el nl lf ph u dy pp tt) := by
              rw [fl_1 (by rw [hRk.len]; omega), if_neg (by rw [el_iff]; omega)]; exact hC
            exact g_sub [2, 3, 4, 0] rfl (ih13 (i + 1, C_, gC) ⟨by omega, hC2, hC7, hgC⟩ (by first | omega | (dsimp only; omega)))
          · refine g_aload_n C d_Ct_choose_80 1 rfl ?_
            refine g_get C f_Ct_38 ((wd_up_n (ne_oo hx hpn (by decide))).trans ((wd_up_n (ne_oa hx hca)).trans ((wd_up_n (ne_oa hx hrk)).trans hx))) rfl d_Ct_choose_81 ?_
            refine g_aload C d_Ct_choose_84 0 rfl ?_
            refine g_callv C (run_V C [.ref b1] k_Ct_299 (ct_Pn_add l D tys A (va_up (va_up (va_up M rk (some (.inl (tc tys 4, 40, .inr (.inr (.inr (.inr gR))))))) ca (some (.inl (tc tys 4, 7, .inr (.inr (.inr (.inr gC))))))) pn (some (.inr (5, [.ref ca, .ref ga, .ref ra, .int (iI (((C_.length : Nat) : Int)))])))) hT9 pn ca ga ra b1 ((C_.length : Nat) : Int) gC _ (by omega) wd_up_s ((wd_up_n (Ne.symm (ne_oa hpn hca))).trans wd_up_s) ((wd_up_n (ne_oo hb1 hpn (by decide))).trans ((wd_up_n (ne_oa hb1 hca)).trans ((wd_up_n (ne_oa hb1 hrk)).trans hb1)))) wd_up_s ⟨rfl, rfl, Nat.le_of_ble_eq_true rfl, Nat.le_of_ble_eq_true rfl⟩ rfl rfl (Nat.le_of_ble_eq_true rfl) d_Ct_choose_86 ⟨Nat.le_of_ble_eq_true rfl, Nat.le_of_ble_eq_true rfl⟩) (fun M12 hM12 => ?_)
            subst hM12
            refine g_world (up4 (Ne.symm (ne_oa hpn hca))) ?_
            refine g_iinc (lv' := [(3, .int (iI (((i : Int)) + 1))), (4, .ref b1), (0, .ref x), (1, .ref e0), (2, .int (iI dy))]) C d_Ct_choose_89 4 rfl (by decide) rfl ?_
            refine g_goto C 13 d_Ct_choose_92 rfl ?_
            obtain ⟨G2, eG2⟩ : ∃ z : Nat → Option Nat, z = va_up gC ((C_.length : Nat) : Int).toNat (some b1) := ⟨_, rfl⟩
            rw [← eG2]
            have hC2 : C_ ++ [Lq.getD i 0] = (Lq.take (i + 1)).filter (el nl lf ph u dy pp tt) := by
              rw [fl_1 (by rw [hRk.len]; omega), if_pos (by rw [el_iff]; omega), ← hC]
            have hl2 : (C_ ++ [Lq.getD i 0]).length = C_.length + 1 := by rw [List.length_append]; rfl
            have hg2 : ∀ k_, k_ < (C_ ++ [Lq.getD i 0]).length → G2 k_ = gt ((C_ ++ [Lq.getD i 0]).getD k_ 0) := by
              intro k_ hk_
              rw [hl2] at hk_
              rw [ap_getD, eG2, show ((C_.length : Nat) : Int).toNat = C_.length by omega]
              unfold va_up
              by_cases e_ : k_ = C_.length
              · rw [if_pos e_, if_neg (by omega), if_pos e_]; exact hs1.symm
              · rw [if_neg e_, if_pos (by omega)]; exact hgC k_ (by omega)
            refine g_world (M' := va_up (va_up (va_up M rk (some (aR tys 4 40 gR))) ca (some (aR tys 4 7 G2))) pn (some (.inr (5, [.ref ca, .ref ga, .ref ra, .int (iI ((((C_ ++ [Lq.getD i 0]).length : Nat) : Int)))])))) (by rw [hl2]; rfl) ?_
            exact g_sub [2, 3, 4, 0] rfl (ih13 (i + 1, C_ ++ [Lq.getD i 0], G2) ⟨by omega, hC2, (show (C_ ++ [Lq.getD i 0]).length ≤ 7 by omega), hg2⟩ (by first | omega | (dsimp only; omega)))
