/-! THE MODEL, on: written by program (wip/whole/gen/mo2.py) -/
set_option maxHeartbeats 4000000 in
set_option maxRecDepth 100000 in
theorem ct_Mo_dueDay (l : Launch) (D : va_G) (tys : xK) (A : Nat → Prop) (M : Wm) (hT : tyOK tys) (m : Nat) (a : Nat → Nat) (f : Nat → Nat → Int) (v0 v1 v2 v3 v4 v5 v6 v7 v8 v9 : Int) (s : AS) (np nl nt ns : Nat) (hS : okS s np nl nt ns) (hr9 : mR s f np nl nt ns) (p : Nat) (hp : p < nt) (hM : MA tys M m a f v0 v1 v2 v3 v4 v5 v6 v7 v8 v9) : pT l y_Mo_dueDay b_Mo_dueDay 2 (some .int) { frames := 0, cells := 0, slots := 0, locals := 0 } D tys A [.ref m, .int (iI ((p : Int)))] M (qP (fun z => z = sDue (s 3 p))) := by
  refine met_of (own := R_Mo) (lv := [(0, .ref m), (1, .int (iI ((p : Int))))]) rfl (by decide) (Nat.le_of_ble_eq_true rfl) rfl ?_
  intro p_ e_ s_ m_ bl_ me_ c_ C hr hin
  have hT9 := hT
  obtain ⟨hT0, hT1, hT2, hT3, hT4, hT5, hT32, hT42, hT52, hT43, hT53, hT54⟩ := hT
  have hS0 := hS
  obtain ⟨⟨e1, e2, e3, e4⟩, ⟨b1_, b2_, b3_, b4_⟩, b5_, okp, oklf, okt, oku, oksp, okg, oku6⟩ := hS
  obtain ⟨rp, rl, rt, rz, re, rs⟩ := id hr9
  have htp := rt p (by omega)
  have htpo := (okt p (by omega)).1
  have htpu := htpo
  unfold okT at htpo
  have htp9 := (okt p (by omega)).2
  have hdo := sDue_or (s 3 p)
  refine g_aload_n C d_Mo_dueDay_0 0 rfl ?_
  refine g_get C f_Mo_64 hM.1 rfl d_Mo_dueDay_1 ?_
  refine g_iload_n C d_Mo_dueDay_4 1 rfl ?_
  refine g_ialdN C 0 hT0 (show M (a 18) = some (aI tys 40 (f 18)) from hM.2.1 18 (by decide)) p (by omega) (by omega) d_Mo_dueDay_5 ?_
  rw [htp.2.2.2.2.2.2.2.2.2.1]
  refine g_if_lt C 40 d_Mo_dueDay_6 rfl (by omega) (fun c1 => ?_) (fun c1 => ?_)
  · refine g_aload_n C d_Mo_dueDay_40 0 rfl ?_
    refine g_get C f_Mo_55 hM.1 rfl d_Mo_dueDay_41 ?_
    refine g_iload_n C d_Mo_dueDay_44 1 rfl ?_
    refine g_ialdN C 0 hT0 (show M (a 15) = some (aI tys 40 (f 15)) from hM.2.1 15 (by decide)) p (by omega) (by omega) d_Mo_dueDay_45 ?_
    rw [htp.2.2.2.2.2.2.1]
    refine g_aload_n C d_Mo_dueDay_46 0 rfl ?_
    refine g_get C f_Mo_46 hM.1 rfl d_Mo_dueDay_47 ?_
    refine g_iload_n C d_Mo_dueDay_50 1 rfl ?_
    refine g_ialdN C 0 hT0 (show M (a 12) = some (aI tys 40 (f 12)) from hM.2.1 12 (by decide)) p (by omega) (by omega) d_Mo_dueDay_51 ?_
    rw [htp.2.2.2.1]
    refine g_iadd C d_Mo_dueDay_52 ?_
    exact g_iretP C hr d_Mo_dueDay_53 (by omega)
  · refine g_aload_n C d_Mo_dueDay_9 0 rfl ?_
    refine g_get C f_Mo_64 hM.1 rfl d_Mo_dueDay_10 ?_
    refine g_iload_n C d_Mo_dueDay_13 1 rfl ?_
    refine g_ialdN C 0 hT0 (show M (a 18) = some (aI tys 40 (f 18)) from hM.2.1 18 (by decide)) p (by omega) (by omega) d_Mo_dueDay_14 ?_
    rw [htp.2.2.2.2.2.2.2.2.2.1]
    refine g_aload_n C d_Mo_dueDay_15 0 rfl ?_
    refine g_get C f_Mo_55 hM.1 rfl d_Mo_dueDay_16 ?_
    refine g_iload_n C d_Mo_dueDay_19 1 rfl ?_
    refine g_ialdN C 0 hT0 (show M (a 15) = some (aI tys 40 (f 15)) from hM.2.1 15 (by decide)) p (by omega) (by omega) d_Mo_dueDay_20 ?_
    rw [htp.2.2.2.2.2.2.1]
    refine g_aload_n C d_Mo_dueDay_21 0 rfl ?_
    refine g_get C f_Mo_46 hM.1 rfl d_Mo_dueDay_22 ?_
    refine g_iload_n C d_Mo_dueDay_25 1 rfl ?_
    refine g_ialdN C 0 hT0 (show M (a 12) = some (aI tys 40 (f 12)) from hM.2.1 12 (by decide)) p (by omega) (by omega) d_Mo_dueDay_26 ?_
    rw [htp.2.2.2.1]
    refine g_iadd C d_Mo_dueDay_27 ?_
    refine g_icmp_ge C 40 d_Mo_dueDay_28 rfl (by omega) (fun c2 => ?_) (fun c2 => ?_)
    · refine g_aload_n C d_Mo_dueDay_40 0 rfl ?_
      refine g_get C f_Mo_55 hM.1 rfl d_Mo_dueDay_41 ?_
      refine g_iload_n C d_Mo_dueDay_44 1 rfl ?_
      refine g_ialdN C 0 hT0 (show M (a 15) = some (aI tys 40 (f 15)) from hM.2.1 15 (by decide)) p (by omega) (by omega) d_Mo_dueDay_45 ?_
      rw [htp.2.2.2.2.2.2.1]
      refine g_aload_n C d_Mo_dueDay_46 0 rfl ?_
      refine g_get C f_Mo_46 hM.1 rfl d_Mo_dueDay_47 ?_
      refine g_iload_n C d_Mo_dueDay_50 1 rfl ?_
      refine g_ialdN C 0 hT0 (show M (a 12) = some (aI tys 40 (f 12)) from hM.2.1 12 (by decide)) p (by omega) (by omega) d_Mo_dueDay_51 ?_
      rw [htp.2.2.2.1]
      refine g_iadd C d_Mo_dueDay_52 ?_
      exact g_iretP C hr d_Mo_dueDay_53 (by omega)
    · refine g_aload_n C d_Mo_dueDay_31 0 rfl ?_
      refine g_get C f_Mo_64 hM.1 rfl d_Mo_dueDay_32 ?_
      refine g_iload_n C d_Mo_dueDay_35 1 rfl ?_
      refine g_ialdN C 0 hT0 (show M (a 18) = some (aI tys 40 (f 18)) from hM.2.1 18 (by decide)) p (by omega) (by omega) d_Mo_dueDay_36 ?_
      rw [htp.2.2.2.2.2.2.2.2.2.1]
      refine g_goto C 53 d_Mo_dueDay_37 rfl ?_
      exact g_iretP C hr d_Mo_dueDay_53 (by omega)
set_option maxHeartbeats 4000000 in
set_option maxRecDepth 100000 in
theorem ct_Mo_isBefore (l : Launch) (D : va_G) (tys : xK) (A : Nat → Prop) (M : Wm) (hT : tyOK tys) (m : Nat) (a : Nat → Nat) (f : Nat → Nat → Int) (v0 v1 v2 v3 v4 v5 v6 v7 v8 v9 : Int) (s : AS) (np nl nt ns : Nat) (hS : okS s np nl nt ns) (hr9 : mR s f np nl nt ns) (p q : Nat) (hp : p < nt) (hq : q < nt) (hM : MA tys M m a f v0 v1 v2 v3 v4 v5 v6 v7 v8 v9) : pT l y_Mo_isBefore b_Mo_isBefore 3 (some .boolean) { frames := 1, cells := 0, slots := 0, locals := 21 } D tys A [.ref m, .int (iI ((p : Int))), .int (iI ((q : Int)))] M (qP (fun z => (z = 1 ∧ bf (fun k_ => sDue (s 3 k_)) p q) ∨ (z = 0 ∧ ¬ bf (fun k_ => sDue (s 3 k_)) p q))) := by
  refine met_of (own := R_Mo) (lv := [(0, .ref m), (1, .int (iI ((p : Int)))), (2, .int (iI ((q : Int))))]) rfl (by decide) (Nat.le_of_ble_eq_true rfl) rfl ?_
  intro p_ e_ s_ m_ bl_ me_ c_ C hr hin
  have hT9 := hT
  obtain ⟨hT0, hT1, hT2, hT3, hT4, hT5, hT32, hT42, hT52, hT43, hT53, hT54⟩ := hT
  have hS0 := hS
  obtain ⟨⟨e1, e2, e3, e4⟩, ⟨b1_, b2_, b3_, b4_⟩, b5_, okp, oklf, okt, oku, oksp, okg, oku6⟩ := hS
  obtain ⟨rp, rl, rt, rz, re, rs⟩ := id hr9
  refine g_aload_n C d_Mo_isBefore_0 0 rfl ?_
  refine g_iload_n C d_Mo_isBefore_1 1 rfl ?_
  refine g_calliP C (run_V C [.int (iI ((p : Int)))] k_Mo_129 (ct_Mo_dueDay l D tys A M hT9 m a f v0 v1 v2 v3 v4 v5 v6 v7 v8 v9 s np nl nt ns hS0 hr9 p (by omega) hM) hM.1 ⟨rfl, rfl, Nat.le_of_ble_eq_true rfl, Nat.le_of_ble_eq_true rfl⟩ rfl rfl (Nat.le_of_ble_eq_true rfl) d_Mo_isBefore_2 ⟨Nat.le_of_ble_eq_true rfl, Nat.le_of_ble_eq_true rfl⟩) (fun z1 hz1 => ?_)
  subst hz1
  have hdz1 := sDue_b (okt p (by omega)).1
  refine g_aload_n C d_Mo_isBefore_5 0 rfl ?_
  refine g_iload_n C d_Mo_isBefore_6 2 rfl ?_
  refine g_calliP C (run_V C [.int (iI ((q : Int)))] k_Mo_129 (ct_Mo_dueDay l D tys A M hT9 m a f v0 v1 v2 v3 v4 v5 v6 v7 v8 v9 s np nl nt ns hS0 hr9 q (by omega) hM) hM.1 ⟨rfl, rfl, Nat.le_of_ble_eq_true rfl, Nat.le_of_ble_eq_true rfl⟩ rfl rfl (Nat.le_of_ble_eq_true rfl) d_Mo_isBefore_7 ⟨Nat.le_of_ble_eq_true rfl, Nat.le_of_ble_eq_true rfl⟩) (fun z2 hz2 => ?_)
  subst hz2
  have hdz2 := sDue_b (okt q (by omega)).1
  refine g_icmp_lt C 31 d_Mo_isBefore_10 rfl (by omega) (fun c3 => ?_) (fun c3 => ?_)
  · refine g_iconst C d_Mo_isBefore_31 ?_
    refine g_goto C 36 d_Mo_isBefore_32 rfl ?_
    exact g_zretP C hr (by omega) d_Mo_isBefore_36 (by rw [bf_iff]; omega)
  · refine g_aload_n C d_Mo_isBefore_13 0 rfl ?_
    refine g_iload_n C d_Mo_isBefore_14 1 rfl ?_
    refine g_calliP C (run_V C [.int (iI ((p : Int)))] k_Mo_129 (ct_Mo_dueDay l D tys A M hT9 m a f v0 v1 v2 v3 v4 v5 v6 v7 v8 v9 s np nl nt ns hS0 hr9 p (by omega) hM) hM.1 ⟨rfl, rfl, Nat.le_of_ble_eq_true rfl, Nat.le_of_ble_eq_true rfl⟩ rfl rfl (Nat.le_of_ble_eq_true rfl) d_Mo_isBefore_15 ⟨Nat.le_of_ble_eq_true rfl, Nat.le_of_ble_eq_true rfl⟩) (fun z4 hz4 => ?_)
    subst hz4
    have hdz4 := sDue_b (okt p (by omega)).1
    refine g_aload_n C d_Mo_isBefore_18 0 rfl ?_
    refine g_iload_n C d_Mo_isBefore_19 2 rfl ?_
    refine g_calliP C (run_V C [.int (iI ((q : Int)))] k_Mo_129 (ct_Mo_dueDay l D tys A M hT9 m a f v0 v1 v2 v3 v4 v5 v6 v7 v8 v9 s np nl nt ns hS0 hr9 q (by omega) hM) hM.1 ⟨rfl, rfl, Nat.le_of_ble_eq_true rfl, Nat.le_of_ble_eq_true rfl⟩ rfl rfl (Nat.le_of_ble_eq_true rfl) d_Mo_isBefore_20 ⟨Nat.le_of_ble_eq_true rfl, Nat.le_of_ble_eq_true rfl⟩) (fun z5 hz5 => ?_)
    subst hz5
    have hdz5 := sDue_b (okt q (by omega)).1
    refine g_icmp_ne C 35 d_Mo_isBefore_23 rfl (by omega) (fun c6 => ?_) (fun c6 => ?_)
    · refine g_iconst C d_Mo_isBefore_35 ?_
      exact g_zretP C hr (by omega) d_Mo_isBefore_36 (by rw [bf_iff]; omega)
    · refine g_iload_n C d_Mo_isBefore_26 1 rfl ?_
      refine g_iload_n C d_Mo_isBefore_27 2 rfl ?_
      refine g_icmp_ge C 35 d_Mo_isBefore_28 rfl (by omega) (fun c7 => ?_) (fun c7 => ?_)
      · refine g_iconst C d_Mo_isBefore_35 ?_
        exact g_zretP C hr (by omega) d_Mo_isBefore_36 (by rw [bf_iff]; omega)
      · refine g_iconst C d_Mo_isBefore_31 ?_
        refine g_goto C 36 d_Mo_isBefore_32 rfl ?_
        exact g_zretP C hr (by omega) d_Mo_isBefore_36 (by rw [bf_iff]; omega)
set_option maxHeartbeats 4000000 in
set_option maxRecDepth 100000 in
theorem ct_Mo_walksOf (l : Launch) (D : va_G) (tys : xK) (A : Nat → Prop) (M : Wm) (hT : tyOK tys) (m : Nat) (a : Nat → Nat) (f : Nat → Nat → Int) (v0 v1 v2 v4 v5 v6 v7 v8 v9 : Int) (s : AS) (np nl nt ns : Nat) (hS : okS s np nl nt ns) (hr9 : mR s f np nl nt ns) (q n h : Nat) (sq : Nat → Nat) (hq : q < 27) (hn : n ≤ mLen q ∧ mLen q ≤ 40) (hh : h < np) (hsq : ∀ k, k < n → f q k = ((sq k : Nat) : Int) ∧ sq k < nt) (hM : MA tys M m a f v0 v1 v2 ((nl : Int)) v4 v5 v6 v7 v8 v9) : pT l y_Mo_walksOf b_Mo_walksOf 9 (some .int) { frames := 2, cells := 0, slots := 0, locals := 49 } D tys A [.ref m, .ref ((a q)), .int (iI ((n : Int))), .int (iI ((h : Int)))] M (qP (fun z => ((∀ k, k ≤ n → ¬ sWay nl (s 2) (s 1 (hN s h n sq k)) (s 1 (hN s h n sq (k + 1))) = -1) ∧ z = sLg nl (s 2) (fun k_ => s 1 (hN s h n sq k_)) (n + 1)) ∨ ((∃ k, k ≤ n ∧ sWay nl (s 2) (s 1 (hN s h n sq k)) (s 1 (hN s h n sq (k + 1))) = -1) ∧ z = -1))) := by
  refine met_of (own := R_Mo) (lv := [(0, .ref m), (1, .ref ((a q))), (2, .int (iI ((n : Int)))), (3, .int (iI ((h : Int))))]) rfl (by decide) (Nat.le_of_ble_eq_true rfl) rfl ?_
  intro p_ e_ s_ m_ bl_ me_ c_ C hr hin
  have hT9 := hT
  obtain ⟨hT0, hT1, hT2, hT3, hT4, hT5, hT32, hT42, hT52, hT43, hT53, hT54⟩ := hT
  have hS0 := hS
  obtain ⟨⟨e1, e2, e3, e4⟩, ⟨b1_, b2_, b3_, b4_⟩, b5_, okp, oklf, okt, oku, oksp, okg, oku6⟩ := hS
  obtain ⟨rp, rl, rt, rz, re, rs⟩ := id hr9
  refine g_iconst C d_Mo_walksOf_0 ?_
  refine g_istore (lv' := [(4, .int (iI 0)), (0, .ref m), (1, .ref ((a q))), (2, .int (iI ((n : Int)))), (3, .int (iI ((h : Int))))]) C d_Mo_walksOf_1 (by decide) rfl ?_
  refine g_iload_n C d_Mo_walksOf_3 4 rfl ?_
  refine g_istore (lv' := [(5, .int (iI ((h : Int)))), (4, .int (iI 0)), (0, .ref m), (1, .ref ((a q))), (2, .int (iI ((n : Int)))), (3, .int (iI ((h : Int))))]) C d_Mo_walksOf_4 (by decide) rfl ?_
  refine g_iconst C d_Mo_walksOf_6 ?_
  refine g_istore (lv' := [(6, .int (iI 0)), (5, .int (iI ((h : Int)))), (4, .int (iI 0)), (0, .ref m), (1, .ref ((a q))), (2, .int (iI ((n : Int)))), (3, .int (iI ((h : Int))))]) C d_Mo_walksOf_7 (by decide) rfl ?_
  refine g_eq (lv' := [(6, .int (iI 0)), (5, .int (iI ((hN s h n sq 0 : Nat) : Int))), (4, .int (iI 0)), (0, .ref m), (1, .ref (a q)), (2, .int (iI (n : Int))), (3, .int (iI (h : Int)))]) (by rw [hN_0]) rfl ?_
  refine g_sub [3, 4, 5, 6, 2, 1, 0] rfl (g_loop (σ := Nat) (fun q_ => n + 1 - q_) (fun q_ => (q_ ≤ n + 1) ∧ (∀ j_, j_ < q_ → ¬ sWay nl (s 2) (s 1 (hN s h n sq j_)) (s 1 (hN s h n sq (j_ + 1))) = -1)) (fun q_ => [(0, .ref m), (1, .ref ((a q))), (2, .int (iI ((n : Int)))), (3, .int (iI ((h : Int)))), (4, .int (iI (sLg nl (s 2) (fun k_ => s 1 (hN s h n sq k_)) q_))), (5, .int (iI (((hN s h n sq q_ : Nat) : Int)))), (6, .int (iI ((q_ : Int))))]) (fun q_ => M) ?_ (0) (⟨Nat.zero_le _, (fun j_ hj_ => absurd hj_ (Nat.not_lt_zero j_))⟩))
  intro x_ hI ih9
  obtain ⟨k, rfl⟩ : ∃ z, z = x_ := ⟨_, rfl⟩
  try dsimp only at hI ih9 ⊢
  obtain ⟨hk0, hlg⟩ := hI
  refine g_iload C d_Mo_walksOf_9 6 rfl ?_
  refine g_iload_n C d_Mo_walksOf_11 2 rfl ?_
  refine g_icmp_gt C 70 d_Mo_walksOf_12 rfl (by omega) (fun c1 => ?_) (fun c1 => ?_)
  · refine g_iload C d_Mo_walksOf_70 4 rfl ?_
    exact g_iretP C hr d_Mo_walksOf_72 (Or.inl ⟨fun j_ hj_ => hlg j_ (by omega), by rw [show k = n + 1 by omega]⟩)
  · have hkn : k ≤ n := by omega
    have hlt1 := hN_lt (h := h) (n := n) (sq := sq) (k := k) hS0 hh (fun k_ hk_ => (hsq k_ hk_).2)
    have hlt2 := hN_lt (h := h) (n := n) (sq := sq) (k := k + 1) hS0 hh (fun k_ hk_ => (hsq k_ hk_).2)
    refine g_iload C d_Mo_walksOf_15 6 rfl ?_
    refine g_iload_n C d_Mo_walksOf_17 2 rfl ?_
    refine g_icmp_ge C 33 d_Mo_walksOf_18 rfl (by omega) (fun c2 => ?_) (fun c2 => ?_)
    · refine g_iload_n C d_Mo_walksOf_33 3 rfl ?_
      refine g_istore (lv' := [(7, .int (iI ((h : Int)))), (0, .ref m), (1, .ref ((a q))), (2, .int (iI ((n : Int)))), (3, .int (iI ((h : Int)))), (4, .int (iI (sLg nl (s 2) (fun k_ => s 1 (hN s h n sq k_)) k))), (5, .int (iI (((hN s h n sq k : Nat) : Int)))), (6, .int (iI ((k : Int))))]) C d_Mo_walksOf_34 (by decide) rfl ?_
      refine g_eq (lv' := [(7, .int (iI (((hN s h n sq (k + 1) : Nat) : Int)))), (0, .ref m), (1, .ref ((a q))), (2, .int (iI ((n : Int)))), (3, .int (iI ((h : Int)))), (4, .int (iI (sLg nl (s 2) (fun k_ => s 1 (hN s h n sq k_)) k))), (5, .int (iI (((hN s h n sq k : Nat) : Int)))), (6, .int (iI ((k : Int))))]) (by rw [hN_e (show n ≤ k by omega)]) rfl ?_
      refine g_aload_n C d_Mo_walksOf_36 1 rfl ?_
      refine g_iload C d_Mo_walksOf_37 6 rfl ?_
      refine g_iload C d_Mo_walksOf_39 0 rfl ?_
      refine g_calliP C (run_V C [.int (iI (((hN s h n sq k : Nat) : Int))), .int (iI (((hN s h n sq (k + 1) : Nat) : Int)))] k_Mo_126 (ct_Mo_way l D tys A M hT9 m a f v0 v1 v2 v4 v5 v6 v7 v8 v9 s np nl nt ns hS0 hr9 (hN s h n sq k) (hN s h n sq (k + 1)) (by omega) (by omega) hM) hM.1 ⟨rfl, rfl, Nat.le_of_ble_eq_true rfl, Nat.le_of_ble_eq_true rfl⟩ rfl rfl (Nat.le_of_ble_eq_true rfl) d_Mo_walksOf_41 ⟨Nat.le_of_ble_eq_true rfl, Nat.le_of_ble_eq_true rfl⟩) (fun z3 hz3 => ?_)
      have hbz3 := sWay_b (nl := nl) oklf (okp (hN s h n sq k) (by omega)) (okp (hN s h n sq (k + 1)) (by omega))
      refine g_istore (lv' := [(8, .int (iI z3)), (7, .int (iI (((hN s h n sq (k + 1) : Nat) : Int)))), (0, .ref m), (1, .ref ((a q))), (2, .int (iI ((n : Int)))), (3, .int (iI ((h : Int)))), (4, .int (iI (sLg nl (s 2) (fun k_ => s 1 (hN s h n sq k_)) k))), (5, .int (iI (((hN s h n sq k : Nat) : Int)))), (6, .int (iI ((k : Int))))]) C d_Mo_walksOf_44 (by decide) rfl ?_
      refine g_iload C d_Mo_walksOf_46 0 rfl ?_
      refine g_if_ge C 53 d_Mo_walksOf_48 rfl (by omega) (fun c4 => ?_) (fun c4 => ?_)
      · refine g_iload C d_Mo_walksOf_53 6 rfl ?_
        refine g_iload C d_Mo_walksOf_55 0 rfl ?_
        refine g_iadd C d_Mo_walksOf_57 ?_
        refine g_istore (lv' := [(4, .int (iI ((sLg nl (s 2) (fun k_ => s 1 (hN s h n sq k_)) k) + z3))), (8, .int (iI z3)), (7, .int (iI (((hN s h n sq (k + 1) : Nat) : Int)))), (0, .ref m), (1, .ref ((a q))), (2, .int (iI ((n : Int)))), (3, .int (iI ((h : Int)))), (5, .int (iI (((hN s h n sq k : Nat) : Int)))), (6, .int (iI ((k : Int))))]) C d_Mo_walksOf_58 (by decide) rfl ?_
        refine g_iload C d_Mo_walksOf_60 2 rfl ?_
        refine g_istore (lv' := [(5, .int (iI (((hN s h n sq (k + 1) : Nat) : Int)))), (4, .int (iI ((sLg nl (s 2) (fun k_ => s 1 (hN s h n sq k_)) k) + z3))), (8, .int (iI z3)), (7, .int (iI (((hN s h n sq (k + 1) : Nat) : Int)))), (0, .ref m), (1, .ref ((a q))), (2, .int (iI ((n : Int)))), (3, .int (iI ((h : Int)))), (6, .int (iI ((k : Int))))]) C d_Mo_walksOf_62 (by decide) rfl ?_
        refine g_iinc (lv' := [(6, .int (iI (((k : Int)) + 1))), (5, .int (iI (((hN s h n sq (k + 1) : Nat) : Int)))), (4, .int (iI ((sLg nl (s 2) (fun k_ => s 1 (hN s h n sq k_)) k) + z3))), (8, .int (iI z3)), (7, .int (iI (((hN s h n sq (k + 1) : Nat) : Int)))), (0, .ref m), (1, .ref ((a q))), (2, .int (iI ((n : Int)))), (3, .int (iI ((h : Int))))]) C d_Mo_walksOf_64 8 rfl (by decide) rfl ?_
        refine g_goto C 9 d_Mo_walksOf_67 rfl ?_
        have hsum : sLg nl (s 2) (fun k_ => s 1 (hN s h n sq k_)) k + z3 = sLg nl (s 2) (fun k_ => s 1 (hN s h n sq k_)) (k + 1) := by rw [sLg.eq_2, hz3]
        rw [hsum]
        exact g_sub [5, 6, 7, 8, 2, 1, 0] rfl (ih9 (k + 1) ⟨(by omega), (fun j_ hj_ => by
            by_cases e_ : j_ = k
            · subst e_; rw [← hz3]; omega
            · exact hlg j_ (by omega))⟩ (by first | omega | (dsimp only; omega)))
      · refine g_iconst C d_Mo_walksOf_51 ?_
        exact g_iretP C hr d_Mo_walksOf_52 (Or.inr ⟨⟨k, hkn, by rw [← hz3]; omega⟩, rfl⟩)
    · obtain ⟨hq1, hq2⟩ := hsq k (by omega)
      have htq := rt (sq k) (by omega)
      have htqo := (okt (sq k) (by omega)).1
      have htqu := htqo
      unfold okT at htqo
      have htq9 := (okt (sq k) (by omega)).2
      refine g_aload_n C d_Mo_walksOf_21 0 rfl ?_
      refine g_get C f_Mo_37 hM.1 rfl d_Mo_walksOf_22 ?_
      refine g_aload_n C d_Mo_walksOf_25 1 rfl ?_
      refine g_iload C d_Mo_walksOf_26 6 rfl ?_
      refine g_ialdN C 0 hT0 (hM.2.1 q hq) k (by omega) (by omega) d_Mo_walksOf_28 ?_
      rw [hq1]
      refine g_ialdN C 0 hT0 (show M (a 9) = some (aI tys 40 (f 9)) from hM.2.1 9 (by decide)) (sq k) (by omega) (by omega) d_Mo_walksOf_29 ?_
      rw [show f 9 (sq k) = ((hN s h n sq (k + 1) : Nat) : Int) by rw [hN_s (show k < n by omega), htq.1]; omega]
      refine g_goto C 34 d_Mo_walksOf_30 rfl ?_
      refine g_istore (lv' := [(7, .int (iI (((hN s h n sq (k + 1) : Nat) : Int)))), (0, .ref m), (1, .ref ((a q))), (2, .int (iI ((n : Int)))), (3, .int (iI ((h : Int)))), (4, .int (iI (sLg nl (s 2) (fun k_ => s 1 (hN s h n sq k_)) k))), (5, .int (iI (((hN s h n sq k : Nat) : Int)))), (6, .int (iI ((k : Int))))]) C d_Mo_walksOf_34 (by decide) rfl ?_
      refine g_aload_n C d_Mo_walksOf_36 1 rfl ?_
      refine g_iload C d_Mo_walksOf_37 6 rfl ?_
      refine g_iload C d_Mo_walksOf_39 0 rfl ?_
      refine g_calliP C (run_V C [.int (iI (((hN s h n sq k : Nat) : Int))), .int (iI (((hN s h n sq (k + 1) : Nat) : Int)))] k_Mo_126 (ct_Mo_way l D tys A M hT9 m a f v0 v1 v2 v4 v5 v6 v7 v8 v9 s np nl nt ns hS0 hr9 (hN s h n sq k) (hN s h n sq (k + 1)) (by omega) (by omega) hM) hM.1 ⟨rfl, rfl, Nat.le_of_ble_eq_true rfl, Nat.le_of_ble_eq_true rfl⟩ rfl rfl (Nat.le_of_ble_eq_true rfl) d_Mo_walksOf_41 ⟨Nat.le_of_ble_eq_true rfl, Nat.le_of_ble_eq_true rfl⟩) (fun z5 hz5 => ?_)
      have hbz5 := sWay_b (nl := nl) oklf (okp (hN s h n sq k) (by omega)) (okp (hN s h n sq (k + 1)) (by omega))
      refine g_istore (lv' := [(8, .int (iI z5)), (7, .int (iI (((hN s h n sq (k + 1) : Nat) : Int)))), (0, .ref m), (1, .ref ((a q))), (2, .int (iI ((n : Int)))), (3, .int (iI ((h : Int)))), (4, .int (iI (sLg nl (s 2) (fun k_ => s 1 (hN s h n sq k_)) k))), (5, .int (iI (((hN s h n sq k : Nat) : Int)))), (6, .int (iI ((k : Int))))]) C d_Mo_walksOf_44 (by decide) rfl ?_
      refine g_iload C d_Mo_walksOf_46 0 rfl ?_
      refine g_if_ge C 53 d_Mo_walksOf_48 rfl (by omega) (fun c6 => ?_) (fun c6 => ?_)
      · refine g_iload C d_Mo_walksOf_53 6 rfl ?_
        refine g_iload C d_Mo_walksOf_55 0 rfl ?_
        refine g_iadd C d_Mo_walksOf_57 ?_
        refine g_istore (lv' := [(4, .int (iI ((sLg nl (s 2) (fun k_ => s 1 (hN s h n sq k_)) k) + z5))), (8, .int (iI z5)), (7, .int (iI (((hN s h n sq (k + 1) : Nat) : Int)))), (0, .ref m), (1, .ref ((a q))), (2, .int (iI ((n : Int)))), (3, .int (iI ((h : Int)))), (5, .int (iI (((hN s h n sq k : Nat) : Int)))), (6, .int (iI ((k : Int))))]) C d_Mo_walksOf_58 (by decide) rfl ?_
        refine g_iload C d_Mo_walksOf_60 2 rfl ?_
        refine g_istore (lv' := [(5, .int (iI (((hN s h n sq (k + 1) : Nat) : Int)))), (4, .int (iI ((sLg nl (s 2) (fun k_ => s 1 (hN s h n sq k_)) k) + z5))), (8, .int (iI z5)), (7, .int (iI (((hN s h n sq (k + 1) : Nat) : Int)))), (0, .ref m), (1, .ref ((a q))), (2, .int (iI ((n : Int)))), (3, .int (iI ((h : Int)))), (6, .int (iI ((k : Int))))]) C d_Mo_walksOf_62 (by decide) rfl ?_
        refine g_iinc (lv' := [(6, .int (iI (((k : Int)) + 1))), (5, .int (iI (((hN s h n sq (k + 1) : Nat) : Int)))), (4, .int (iI ((sLg nl (s 2) (fun k_ => s 1 (hN s h n sq k_)) k) + z5))), (8, .int (iI z5)), (7, .int (iI (((hN s h n sq (k + 1) : Nat) : Int)))), (0, .ref m), (1, .ref ((a q))), (2, .int (iI ((n : Int)))), (3, .int (iI ((h : Int))))]) C d_Mo_walksOf_64 8 rfl (by decide) rfl ?_
        refine g_goto C 9 d_Mo_walksOf_67 rfl ?_
        have hsum : sLg nl (s 2) (fun k_ => s 1 (hN s h n sq k_)) k + z5 = sLg nl (s 2) (fun k_ => s 1 (hN s h n sq k_)) (k + 1) := by rw [sLg.eq_2, hz5]
        rw [hsum]
        exact g_sub [5, 6, 7, 8, 2, 1, 0] rfl (ih9 (k + 1) ⟨(by omega), (fun j_ hj_ => by
            by_cases e_ : j_ = k
            · subst e_; rw [← hz5]; omega
            · exact hlg j_ (by omega))⟩ (by first | omega | (dsimp only; omega)))
      · refine g_iconst C d_Mo_walksOf_51 ?_
        exact g_iretP C hr d_Mo_walksOf_52 (Or.inr ⟨⟨k, hkn, by rw [← hz5]; omega⟩, rfl⟩)
set_option maxHeartbeats 4000000 in
set_option maxRecDepth 100000 in
theorem ct_Mo_swap (l : Launch) (D : va_G) (tys : xK) (A : Nat → Prop) (M : Wm) (hT : tyOK tys) (m : Nat) (a : Nat → Nat) (f : Nat → Nat → Int) (v0 v1 v2 v3 v4 v5 v6 v7 v8 v9 : Int) (i j : Nat) (hi : i < 7 ∧ j < 7) (hM : MA tys M m a f v0 v1 v2 v3 v4 v5 v6 v7 v8 v9) : mT l y_Mo_swap b_Mo_swap 4 none { frames := 0, cells := 0, slots := 0, locals := 0 } D tys A [.ref m, .int (iI ((i : Int))), .int (iI ((j : Int)))] M (qV D A (fun M' => MA tys M' m a (va_up f 25 (va_up (va_up (f 25) i (f 25 j)) j (f 25 i))) v0 v1 v2 v3 v4 v5 v6 v7 v8 v9)) 0 0 := by
  refine met_of (own := R_Mo) (lv := [(0, .ref m), (1, .int (iI ((i : Int)))), (2, .int (iI ((j : Int))))]) rfl (by decide) (Nat.le_of_ble_eq_true rfl) rfl ?_
  intro p_ e_ s_ m_ bl_ me_ c_ C hr hin
  have hT9 := hT
  obtain ⟨hT0, hT1, hT2, hT3, hT4, hT5, hT32, hT42, hT52, hT43, hT53, hT54⟩ := hT
  refine g_aload_n C d_Mo_swap_0 0 rfl ?_
  refine g_get C f_Mo_89 hM.1 rfl d_Mo_swap_1 ?_
  refine g_iload_n C d_Mo_swap_4 1 rfl ?_
  refine g_ialdN C 0 hT0 (show M (a 25) = some (aI tys 7 (f 25)) from hM.2.1 25 (by decide)) i (by omega) (by omega) d_Mo_swap_5 ?_
  refine g_istore_n (lv' := [(3, .int (iI ((f 25) i))), (0, .ref m), (1, .int (iI ((i : Int)))), (2, .int (iI ((j : Int))))]) C d_Mo_swap_6 (by decide) rfl ?_
  refine g_aload_n C d_Mo_swap_7 1 rfl ?_
  refine g_get C f_Mo_89 hM.1 rfl d_Mo_swap_8 ?_
  refine g_iload_n C d_Mo_swap_11 2 rfl ?_
  refine g_aload_n C d_Mo_swap_12 1 rfl ?_
  refine g_get C f_Mo_89 hM.1 rfl d_Mo_swap_13 ?_
  refine g_iload_n C d_Mo_swap_16 3 rfl ?_
  refine g_ialdN C 0 hT0 (show M (a 25) = some (aI tys 7 (f 25)) from hM.2.1 25 (by decide)) j (by omega) (by omega) d_Mo_swap_17 ?_
  refine g_iastN C 0 hT0 (show M (a 25) = some (aI tys 7 (f 25)) from hM.2.1 25 (by decide)) i (by omega) (by omega) d_Mo_swap_18 ?_ rfl
  refine g_abs (X := fun M_ => MA tys M_ m a (va_up f 25 (va_up (f 25) i ((f 25) j))) v0 v1 v2 v3 v4 v5 v6 v7 v8 v9) (MA_F hM 25 (by decide) (va_up (f 25) i ((f 25) j)) rfl) (fun M1 hM1 => ?_)
  refine g_aload_n C d_Mo_swap_19 1 rfl ?_
  refine g_get C f_Mo_89 hM1.1 rfl d_Mo_swap_20 ?_
  refine g_iload_n C d_Mo_swap_23 3 rfl ?_
  refine g_iload_n C d_Mo_swap_24 0 rfl ?_
  refine g_iastN C 0 hT0 (show M1 (a 25) = some (aI tys 7 (va_up (f 25) i ((f 25) j))) from hM1.2.1 25 (by decide)) j (by omega) (by omega) d_Mo_swap_25 ?_ rfl
  refine g_abs (X := fun M_ => MA tys M_ m a (va_up (va_up f 25 (va_up (f 25) i ((f 25) j))) 25 (va_up (va_up (f 25) i ((f 25) j)) j ((f 25) i))) v0 v1 v2 v3 v4 v5 v6 v7 v8 v9) (MA_F hM1 25 (by decide) (va_up (va_up (f 25) i ((f 25) j)) j ((f 25) i)) rfl) (fun M2 hM2 => ?_)
  exact g_vret C hr d_Mo_swap_26 (by have h_ := hM2; rw [bx_uu] at h_; exact h_)
