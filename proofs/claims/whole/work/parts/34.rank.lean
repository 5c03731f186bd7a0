/-! RANKS AND CHOICE: written by program (wip/whole/gen/rank.py) -/
set_option maxHeartbeats 4000000 in
set_option maxRecDepth 100000 in
theorem ct_Ct_rankByDueDays (l : Launch) (D : va_G) (tys : xK) (A : Nat → Prop) (M : Wm) (hT : tyOK tys) (x ho ta rk ea sa pn to nt ns : Nat) (rt : Int) (gt gr : Nat → Option Nat) (pp tt : Nat → Nat → Int) (hx : M x = some (.inr (7, [.int (iI rt), .ref ho, .ref ta, .ref rk, .ref ea, .ref sa, .ref pn, .ref to, .int (iI ((nt : Int))), .int (iI ((ns : Int)))]))) (hta : M ta = some (aR tys 4 40 gt)) (hrk : M rk = some (aR tys 4 40 gr)) (htr : ta ≠ rk) (hps : PsA M nt gt pp tt) : mT l y_Ct_rankByDueDays b_Ct_rankByDueDays 4 none { frames := 2, cells := 0, slots := 0, locals := 42 } D tys A [.ref x] M (qV D A (fun M' => ∃ (g : Nat → Option Nat) (Lq : List Nat), Rk (fun k_ => sDue (tt k_)) nt gt g Lq ∧ M' = va_up M rk (some (aR tys 4 40 g)))) 0 0 := by
  refine met_of (own := R_Ct) (lv := [(0, .ref x)]) rfl (by decide) (Nat.le_of_ble_eq_true rfl) rfl ?_
  intro p_ e_ s_ m_ bl_ me_ c_ C hr hin
  have hT9 := hT
  obtain ⟨hT0, hT1, hT2, hT3, hT4, hT5, hT32, hT42, hT52, hT43, hT53, hT54⟩ := hT
  have hnt := hps.1
  refine g_iconst C d_Ct_rankByDueDays_0 ?_
  refine g_istore_n (lv' := [(1, .int (iI 0)), (0, .ref x)]) C d_Ct_rankByDueDays_1 (by decide) rfl ?_
  refine g_world (up_same hrk).symm ?_
  refine g_toX ?_
  refine g_sub [1, 0] rfl (g_loop (σ := Nat × (Nat → Option Nat) × List Nat) (fun q_ => nt - q_.1) (fun q_ => (q_.1 ≤ nt) ∧ (Rk (fun k_ => sDue (tt k_)) q_.1 gt q_.2.1 q_.2.2)) (fun q_ => [(0, .ref x), (1, .int (iI ((q_.1 : Int))))]) (fun q_ => (va_up M rk (some (.inl (tc tys 4, 40, .inr (.inr (.inr (.inr q_.2.1)))))))) ?_ (0, gr, []) (⟨Nat.zero_le _, ⟨List.Perm.refl _, List.Pairwise.nil, fun k hk => absurd hk (Nat.not_lt_zero k)⟩⟩))
  intro x_ hI ih2
  obtain ⟨i, G, Lq⟩ := x_
  try dsimp only at hI ih2 ⊢
  obtain ⟨hi0, hRk⟩ := hI
  refine g_iload_n C d_Ct_rankByDueDays_2 1 rfl ?_
  refine g_aload_n C d_Ct_rankByDueDays_3 0 rfl ?_
  refine g_get C f_Ct_49 ((wd_up_n (ne_oa hx hrk)).trans hx) rfl d_Ct_rankByDueDays_4 ?_
  refine g_icmp_ge C 79 d_Ct_rankByDueDays_7 rfl (by omega) (fun c1 => ?_) (fun c1 => ?_)
  · exact g_vret C hr d_Ct_rankByDueDays_79 ⟨G, Lq, (show i = nt by omega) ▸ hRk, rfl⟩
  · obtain ⟨b1, hs1, hpk1, htk1, pa1, hb1, hpa1⟩ := hps.2 i (by omega)
    refine g_aload_n C d_Ct_rankByDueDays_10 0 rfl ?_
    refine g_get C f_Ct_18 ((wd_up_n (ne_oa hx hrk)).trans hx) rfl d_Ct_rankByDueDays_11 ?_
    refine g_iload_n C d_Ct_rankByDueDays_14 1 rfl ?_
    refine g_aald C 4 hT4 ((wd_up_n htr).trans hta) (by omega) (by rw [show ((i : Nat) : Int).toNat = i by omega]; exact hs1) d_Ct_rankByDueDays_15 ?_
    refine g_calliP C (run_V C [] k_Ct_278 (ct_Pt_dueDay l D tys A (va_up M rk (some (.inl (tc tys 4, 40, .inr (.inr (.inr (.inr G))))))) b1 ((i : Nat) : Int) pa1 (tt i) htk1 ((wd_up_n (ne_oa hb1 hrk)).trans hb1)) ((wd_up_n (ne_oa hb1 hrk)).trans hb1) ⟨rfl, rfl, Nat.le_of_ble_eq_true rfl, Nat.le_of_ble_eq_true rfl⟩ rfl rfl (Nat.le_of_ble_eq_true rfl) d_Ct_rankByDueDays_16 ⟨Nat.le_of_ble_eq_true rfl, Nat.le_of_ble_eq_true rfl⟩) (fun z2 hz2 => ?_)
    have hbz2 := sDue_b htk1
    refine g_istore_n (lv' := [(2, .int (iI z2)), (0, .ref x), (1, .int (iI ((i : Int))))]) C d_Ct_rankByDueDays_19 (by decide) rfl ?_
    refine g_iload_n C d_Ct_rankByDueDays_20 2 rfl ?_
    refine g_istore_n (lv' := [(3, .int (iI ((i : Int)))), (2, .int (iI z2)), (0, .ref x), (1, .int (iI ((i : Int))))]) C d_Ct_rankByDueDays_21 (by decide) rfl ?_
    rw [hz2]
    refine g_sub [2, 3, 1, 0] rfl (g_loop (σ := Nat × (Nat → Option Nat)) (fun q_ => q_.1) (fun q_ => (Ri (fun k_ => sDue (tt k_)) i q_.1 gt q_.2 Lq)) (fun q_ => [(0, .ref x), (1, .int (iI ((i : Int)))), (2, .int (iI (sDue (tt i)))), (3, .int (iI ((q_.1 : Int))))]) (fun q_ => (va_up M rk (some (.inl (tc tys 4, 40, .inr (.inr (.inr (.inr q_.2)))))))) ?_ (i, G) (Ri_0 hRk))
    intro x_ hI ih22
    obtain ⟨r, G⟩ := x_
    try dsimp only at hI ih22 ⊢
    have hRi := hI
    have hri := hRi.1
    refine g_iload_n C d_Ct_rankByDueDays_22 3 rfl ?_
    refine g_if_le C 61 d_Ct_rankByDueDays_23 rfl (by omega) (fun c3 => ?_) (fun c3 => ?_)
    · have hst9 : r = 0 ∨ sDue (tt (Lq.getD (r - 1) 0)) ≤ sDue (tt i) := Or.inl (by omega)
      refine g_aload_n C d_Ct_rankByDueDays_61 0 rfl ?_
      refine g_get C f_Ct_22 ((wd_up_n (ne_oa hx hrk)).trans hx) rfl d_Ct_rankByDueDays_62 ?_
      refine g_iload_n C d_Ct_rankByDueDays_65 3 rfl ?_
      refine g_aload_n C d_Ct_rankByDueDays_66 0 rfl ?_
      refine g_get C f_Ct_18 ((wd_up_n (ne_oa hx hrk)).trans hx) rfl d_Ct_rankByDueDays_67 ?_
      refine g_iload_n C d_Ct_rankByDueDays_70 1 rfl ?_
      refine g_aald C 4 hT4 ((wd_up_n htr).trans hta) (by omega) (by rw [show ((i : Nat) : Int).toNat = i by omega]; exact hs1) d_Ct_rankByDueDays_71 ?_
      refine g_aast C 4 hT4 rfl wd_up_s ((wd_up_n (ne_oa hb1 hrk)).trans hb1) (by omega) d_Ct_rankByDueDays_72 ?_
      refine g_world (bx_uu _ _ _ _) ?_
      refine g_iinc (lv' := [(1, .int (iI (((i : Int)) + 1))), (0, .ref x), (2, .int (iI (sDue (tt i)))), (3, .int (iI ((r : Int))))]) C d_Ct_rankByDueDays_73 1 rfl (by decide) rfl ?_
      refine g_goto C 2 d_Ct_rankByDueDays_76 rfl ?_
      obtain ⟨G2, eG2⟩ : ∃ z : Nat → Option Nat, z = va_up G ((r : Int)).toNat (some b1) := ⟨_, rfl⟩
      rw [← eG2]
      have hRk2 : Rk (fun k_ => sDue (tt k_)) (i + 1) gt G2 (Lq.take r ++ i :: Lq.drop r) := by
        rw [eG2, show ((r : Nat) : Int).toNat = r by omega]
        exact Rk_s hRk hRi hst9 hs1
      exact g_sub [1, 0] rfl (ih2 (i + 1, G2, Lq.take r ++ i :: Lq.drop r) ⟨by omega, hRk2⟩ (by first | omega | (dsimp only; omega)))
    · have hlt9 := hRk.lt (k := r - 1) (by omega)
      obtain ⟨b2, hs2, hpk2, htk2, pa2, hb2, hpa2⟩ := hps.2 ((Lq.getD (r - 1) 0)) (by omega)
      refine g_aload_n C d_Ct_rankByDueDays_26 0 rfl ?_
      refine g_get C f_Ct_22 ((wd_up_n (ne_oa hx hrk)).trans hx) rfl d_Ct_rankByDueDays_27 ?_
      refine g_iload_n C d_Ct_rankByDueDays_30 3 rfl ?_
      refine g_iconst C d_Ct_rankByDueDays_31 ?_
      refine g_isub C d_Ct_rankByDueDays_32 ?_
      refine g_aald C 4 hT4 wd_up_s (by omega) (by rw [show ((r : Int) - 1).toNat = r - 1 by omega, hRi.2.1 (r - 1) (by omega)]; exact hs2) d_Ct_rankByDueDays_33 ?_
      refine g_calliP C (run_V C [] k_Ct_278 (ct_Pt_dueDay l D tys A (va_up M rk (some (.inl (tc tys 4, 40, .inr (.inr (.inr (.inr G))))))) b2 (((Lq.getD (r - 1) 0) : Nat) : Int) pa2 (tt ((Lq.getD (r - 1) 0))) htk2 ((wd_up_n (ne_oa hb2 hrk)).trans hb2)) ((wd_up_n (ne_oa hb2 hrk)).trans hb2) ⟨rfl, rfl, Nat.le_of_ble_eq_true rfl, Nat.le_of_ble_eq_true rfl⟩ rfl rfl (Nat.le_of_ble_eq_true rfl) d_Ct_rankByDueDays_34 ⟨Nat.le_of_ble_eq_true rfl, Nat.le_of_ble_eq_true rfl⟩) (fun z4 hz4 => ?_)
      have hbz4 := sDue_b htk2
      refine g_iload_n C d_Ct_rankByDueDays_37 2 rfl ?_
      refine g_icmp_le C 61 d_Ct_rankByDueDays_38 rfl (by omega) (fun c5 => ?_) (fun c5 => ?_)
      · have hst9 : r = 0 ∨ sDue (tt (Lq.getD (r - 1) 0)) ≤ sDue (tt i) := Or.inr (by omega)
        refine g_aload_n C d_Ct_rankByDueDays_61 0 rfl ?_
        refine g_get C f_Ct_22 ((wd_up_n (ne_oa hx hrk)).trans hx) rfl d_Ct_rankByDueDays_62 ?_
        refine g_iload_n C d_Ct_rankByDueDays_65 3 rfl ?_
        refine g_aload_n C d_Ct_rankByDueDays_66 0 rfl ?_
        refine g_get C f_Ct_18 ((wd_up_n (ne_oa hx hrk)).trans hx) rfl d_Ct_rankByDueDays_67 ?_
        refine g_iload_n C d_Ct_rankByDueDays_70 1 rfl ?_
        refine g_aald C 4 hT4 ((wd_up_n htr).trans hta) (by omega) (by rw [show ((i : Nat) : Int).toNat = i by omega]; exact hs1) d_Ct_rankByDueDays_71 ?_
        refine g_aast C 4 hT4 rfl wd_up_s ((wd_up_n (ne_oa hb1 hrk)).trans hb1) (by omega) d_Ct_rankByDueDays_72 ?_
        refine g_world (bx_uu _ _ _ _) ?_
        refine g_iinc (lv' := [(1, .int (iI (((i : Int)) + 1))), (0, .ref x), (2, .int (iI (sDue (tt i)))), (3, .int (iI ((r : Int))))]) C d_Ct_rankByDueDays_73 1 rfl (by decide) rfl ?_
        refine g_goto C 2 d_Ct_rankByDueDays_76 rfl ?_
        obtain ⟨G2, eG2⟩ : ∃ z : Nat → Option Nat, z = va_up G ((r : Int)).toNat (some b1) := ⟨_, rfl⟩
        rw [← eG2]
        have hRk2 : Rk (fun k_ => sDue (tt k_)) (i + 1) gt G2 (Lq.take r ++ i :: Lq.drop r) := by
          rw [eG2, show ((r : Nat) : Int).toNat = r by omega]
          exact Rk_s hRk hRi hst9 hs1
        exact g_sub [1, 0] rfl (ih2 (i + 1, G2, Lq.take r ++ i :: Lq.drop r) ⟨by omega, hRk2⟩ (by first | omega | (dsimp only; omega)))
      · refine g_aload_n C d_Ct_rankByDueDays_41 0 rfl ?_
        refine g_get C f_Ct_22 ((wd_up_n (ne_oa hx hrk)).trans hx) rfl d_Ct_rankByDueDays_42 ?_
        refine g_iload_n C d_Ct_rankByDueDays_45 3 rfl ?_
        refine g_aload_n C d_Ct_rankByDueDays_46 0 rfl ?_
        refine g_get C f_Ct_22 ((wd_up_n (ne_oa hx hrk)).trans hx) rfl d_Ct_rankByDueDays_47 ?_
        refine g_iload_n C d_Ct_rankByDueDays_50 3 rfl ?_
        refine g_iconst C d_Ct_rankByDueDays_51 ?_
        refine g_isub C d_Ct_rankByDueDays_52 ?_
        refine g_aald C 4 hT4 wd_up_s (by omega) (by rw [show ((r : Int) - 1).toNat = r - 1 by omega, hRi.2.1 (r - 1) (by omega)]; exact hs2) d_Ct_rankByDueDays_53 ?_
        refine g_aast C 4 hT4 rfl wd_up_s ((wd_up_n (ne_oa hb2 hrk)).trans hb2) (by omega) d_Ct_rankByDueDays_54 ?_
        refine g_world (bx_uu _ _ _ _) ?_
        refine g_iinc (lv' := [(3, .int (iI (((r : Int)) + (-1)))), (0, .ref x), (1, .int (iI ((i : Int)))), (2, .int (iI (sDue (tt i))))]) C d_Ct_rankByDueDays_55 3 rfl (by decide) rfl ?_
        refine g_goto C 22 d_Ct_rankByDueDays_58 rfl ?_
        obtain ⟨G2, eG2⟩ : ∃ z : Nat → Option Nat, z = va_up G ((r : Int)).toNat (some b2) := ⟨_, rfl⟩
        rw [← eG2, show (r : Int) + (-1) = ((r - 1 : Nat) : Int) by omega]
        have hRi2 : Ri (fun k_ => sDue (tt k_)) i (r - 1) gt G2 Lq := by
          rw [eG2, show ((r : Nat) : Int).toNat = r by omega]
          exact Ri_s (by omega) hRi (by show sDue (tt i) < sDue (tt (Lq.getD (r - 1) 0)); omega) hs2
        exact g_sub [1, 2, 3, 0] rfl (ih22 (r - 1, G2) hRi2 (by first | omega | (dsimp only; omega)))
