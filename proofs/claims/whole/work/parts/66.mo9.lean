/-! THE MODEL, tour: written by program (wip/whole/gen/mo9.py) -/
set_option maxHeartbeats 4000000 in
set_option maxRecDepth 100000 in
theorem ct_Mo_tour (l : Launch) (D : va_G) (tys : xK) (A : Nat → Prop) (M : Wm) (hT : tyOK tys) (m : Nat) (s : AS) (th : Int) (np nl nt ns : Nat) (hS : okS s np nl nt ns) (hTk : TOK s nl nt ns) (z1_ z2_ : Int) (hz1 : (-2147483648 ≤ z1_ ∧ z1_ < 2147483648)) (hz2 : (-2147483648 ≤ z2_ ∧ z2_ < 2147483648))  (hRM : RM tys M m s th) : mT l y_Mo_tour b_Mo_tour 6 (some .int) { frames := 4, cells := 0, slots := 0, locals := 103 } D tys A [.ref m, .int (iI z1_), .int (iI z2_)] M (qI D A (fun z M' => (((0 ≤ z1_ ∧ z1_ < s 0 0 4) ∧ (0 ≤ z2_ ∧ z2_ ≤ 100000)) ∧ ∃ s' : AS, Tr s z1_.toNat z2_ s' ∧ z = s' 0 0 7 ∧ RM tys M' m s' 0) ∨ (¬ ((0 ≤ z1_ ∧ z1_ < s 0 0 4) ∧ (0 ≤ z2_ ∧ z2_ ≤ 100000)) ∧ RM tys M' m s 1))) 0 0 := by
  refine met_of (own := R_Mo) (lv := [(0, .ref m), (1, .int (iI z1_)), (2, .int (iI z2_))]) rfl (by decide) (Nat.le_of_ble_eq_true rfl) rfl ?_
  intro p_ e_ s_ m_ bl_ me_ c_ C hr hin
  have hT9 := hT
  obtain ⟨hT0, hT1, hT2, hT3, hT4, hT5, hT32, hT42, hT52, hT43, hT53, hT54⟩ := hT
  obtain ⟨a, f, v7, v8, v9, hM, hr9, ht9⟩ := RM_to hS hRM
  have hwho : -1 ≤ s 0 0 5 ∧ s 0 0 5 < (ns : Int) := by
    rcases hTk with ⟨h_, -⟩ | ⟨w_, cn_, dn_, h1_, h2_, -⟩ <;> omega
  obtain ⟨hv8, hv9, hvt⟩ := id ht9
  have hS0 := hS
  obtain ⟨⟨e1, e2, e3, e4⟩, ⟨b1_, b2_, b3_, b4_⟩, b5_, okp, oklf, okt, oku, oksp, okg, oku6⟩ := hS
  obtain ⟨rp, rl, rt, rz, re, rs⟩ := id hr9
  refine g_aload_n C d_Mo_tour_0 0 rfl ?_
  refine g_iload_n C d_Mo_tour_1 1 rfl ?_
  refine g_iconst C d_Mo_tour_2 ?_
  refine g_aload_n C d_Mo_tour_3 0 rfl ?_
  refine g_get C f_Mo_115 hM.1 rfl d_Mo_tour_4 ?_
  refine g_iconst C d_Mo_tour_7 ?_
  refine g_isub C d_Mo_tour_8 ?_
  refine g_calliP C (run_S C [.int (iI z1_), .int (iI 0), .int (iI (((ns : Int)) - 1))] k_Mo_101 (ct_Mo_in l D tys A M z1_ 0 (((ns : Int)) - 1) (by omega)) ⟨rfl, rfl, Nat.le_of_ble_eq_true rfl, Nat.le_of_ble_eq_true rfl⟩ rfl rfl (Nat.le_of_ble_eq_true rfl) d_Mo_tour_9 ⟨Nat.le_of_ble_eq_true rfl, Nat.le_of_ble_eq_true rfl⟩) (fun z1 hz1 => ?_)
  refine g_if_eq C 25 d_Mo_tour_12 rfl (by omega) (fun c2 => ?_) (fun c2 => ?_)
  · refine g_iconst C d_Mo_tour_25 ?_
    refine g_goto C 30 d_Mo_tour_26 rfl ?_
    refine g_put C p_Mo_98 hM.1 rfl rfl (Nat.le_of_ble_eq_true rfl) (fs' := [.int (iI 1), .int (iI (s 0 0 0)), .int (iI ((np : Int))), .ref (a 0), .ref (a 1), .ref (a 2), .int (iI ((nl : Int))), .ref (a 3), .ref (a 4), .ref (a 5), .ref (a 6), .ref (a 7), .ref (a 8), .int (iI ((nt : Int))), .ref (a 9), .ref (a 10), .ref (a 11), .ref (a 12), .ref (a 13), .ref (a 14), .ref (a 15), .ref (a 16), .ref (a 17), .ref (a 18), .int (iI ((ns : Int))), .ref (a 19), .ref (a 20), .ref (a 21), .ref (a 22), .int (iI (s 0 0 5)), .int (iI v7), .int (iI v8), .int (iI v9), .ref (a 23), .ref (a 24), .ref (a 25), .ref (a 26)]) rfl d_Mo_tour_30 ?_
    refine g_abs (X := fun M_ => MA tys M_ m a f 1 (s 0 0 0) ((np : Int)) ((nl : Int)) ((nt : Int)) ((ns : Int)) (s 0 0 5) v7 v8 v9) (MA_V hM 1 (s 0 0 0) ((np : Int)) ((nl : Int)) ((nt : Int)) ((ns : Int)) (s 0 0 5) v7 v8 v9) (fun M3 hM3 => ?_)
    refine g_aload_n C d_Mo_tour_33 0 rfl ?_
    refine g_get C f_Mo_98 hM3.1 rfl d_Mo_tour_34 ?_
    refine g_if_le C 42 d_Mo_tour_37 rfl (by omega) (fun c4 => ?_) (fun c4 => ?_)
    · exact absurd c4 (by decide)
    · refine g_iconst C d_Mo_tour_40 ?_
      exact g_iret C hr d_Mo_tour_41 (Or.inr ⟨by omega, RM_of hM3 rfl e1.symm e2.symm e3.symm e4.symm rfl e1 e2 e3 e4 hr9 ht9⟩)
  · refine g_iload_n C d_Mo_tour_15 2 rfl ?_
    refine g_iconst C d_Mo_tour_16 ?_
    refine g_ldc C 100000 q_Mo_114 d_Mo_tour_17 ?_
    refine g_calliP C (run_S C [.int (iI z2_), .int (iI 0), .int (iI 100000)] k_Mo_101 (ct_Mo_in l D tys A M z2_ 0 100000 (by omega)) ⟨rfl, rfl, Nat.le_of_ble_eq_true rfl, Nat.le_of_ble_eq_true rfl⟩ rfl rfl (Nat.le_of_ble_eq_true rfl) d_Mo_tour_19 ⟨Nat.le_of_ble_eq_true rfl, Nat.le_of_ble_eq_true rfl⟩) (fun z5 hz5 => ?_)
    refine g_if_ne C 29 d_Mo_tour_22 rfl (by omega) (fun c6 => ?_) (fun c6 => ?_)
    · refine g_iconst C d_Mo_tour_29 ?_
      refine g_put C p_Mo_98 hM.1 rfl rfl (Nat.le_of_ble_eq_true rfl) (fs' := [.int (iI 0), .int (iI (s 0 0 0)), .int (iI ((np : Int))), .ref (a 0), .ref (a 1), .ref (a 2), .int (iI ((nl : Int))), .ref (a 3), .ref (a 4), .ref (a 5), .ref (a 6), .ref (a 7), .ref (a 8), .int (iI ((nt : Int))), .ref (a 9), .ref (a 10), .ref (a 11), .ref (a 12), .ref (a 13), .ref (a 14), .ref (a 15), .ref (a 16), .ref (a 17), .ref (a 18), .int (iI ((ns : Int))), .ref (a 19), .ref (a 20), .ref (a 21), .ref (a 22), .int (iI (s 0 0 5)), .int (iI v7), .int (iI v8), .int (iI v9), .ref (a 23), .ref (a 24), .ref (a 25), .ref (a 26)]) rfl d_Mo_tour_30 ?_
      refine g_abs (X := fun M_ => MA tys M_ m a f 0 (s 0 0 0) ((np : Int)) ((nl : Int)) ((nt : Int)) ((ns : Int)) (s 0 0 5) v7 v8 v9) (MA_V hM 0 (s 0 0 0) ((np : Int)) ((nl : Int)) ((nt : Int)) ((ns : Int)) (s 0 0 5) v7 v8 v9) (fun M7 hM7 => ?_)
      refine g_aload_n C d_Mo_tour_33 0 rfl ?_
      refine g_get C f_Mo_98 hM7.1 rfl d_Mo_tour_34 ?_
      refine g_if_le C 42 d_Mo_tour_37 rfl (by omega) (fun c8 => ?_) (fun c8 => ?_)
      · obtain ⟨w, rfl⟩ : ∃ w : Nat, z1_ = (w : Int) := ⟨z1_.toNat, by omega⟩
        have hpw := re w (by omega)
        have huw := oku w (by omega)
        have huw9 := huw.1
        unfold okU at huw9
        obtain ⟨h, hh⟩ : ∃ h : Nat, s 4 w 2 = (h : Int) := ⟨(s 4 w 2).toNat, by omega⟩
        have hhH : s 1 h = sHP s w := by unfold sHP; rw [hh]; rfl
        have ew : ((w : Nat) : Int).toNat = w := by omega
        have enl : (s 0 0 2).toNat = nl := by omega
        refine g_iconst C d_Mo_tour_42 ?_
        refine g_istore_n (lv' := [(3, .int (iI 0)), (0, .ref m), (1, .int (iI ((w : Int)))), (2, .int (iI z2_))]) C d_Mo_tour_43 (by decide) rfl ?_
        refine g_iconst C d_Mo_tour_44 ?_
        refine g_istore (lv' := [(4, .int (iI 0)), (3, .int (iI 0)), (0, .ref m), (1, .int (iI ((w : Int)))), (2, .int (iI z2_))]) C d_Mo_tour_45 (by decide) rfl ?_
        refine g_toX ?_
        refine g_sub [2, 3, 4, 1, 0] rfl (g_loop (σ := Nat × List Nat × Nat × (Nat → Int) × Wm) (fun q_ => nt - q_.1) (fun q_ => (q_.1 ≤ nt) ∧ (q_.2.1.Perm ((List.range q_.1).filter (el nl (s 2) (sHP s w) (s 4 w) z2_ (sPP s) (s 3)))) ∧ (q_.2.1.Pairwise (bf (fun k_ => sDue (s 3 k_)))) ∧ (q_.2.2.1 ≤ 7 ∧ q_.2.2.1 ≤ q_.2.1.length ∧ (q_.2.2.1 = 7 ∨ q_.2.2.1 = q_.2.1.length)) ∧ (∀ j_, j_ < q_.2.2.1 → q_.2.2.2.1 j_ = ((q_.2.1.getD j_ 0 : Nat) : Int)) ∧ (MA tys q_.2.2.2.2 m a (va_up f 24 q_.2.2.2.1) 0 (s 0 0 0) ((np : Int)) ((nl : Int)) ((nt : Int)) ((ns : Int)) (s 0 0 5) v7 v8 v9)) (fun q_ => [(0, .ref m), (1, .int (iI ((w : Int)))), (2, .int (iI z2_)), (3, .int (iI ((q_.2.2.1 : Int)))), (4, .int (iI ((q_.1 : Int))))]) (fun q_ => q_.2.2.2.2) ?_ (0, [], 0, f 24, M7) (⟨Nat.zero_le _, (List.Perm.refl _), List.Pairwise.nil, ⟨Nat.zero_le _, Nat.le_refl _, Or.inr rfl⟩, (fun j_ hj_ => absurd hj_ (Nat.not_lt_zero j_)), (by rw [wU_id]; exact hM7)⟩))
        intro x_ hI ih47
        obtain ⟨k, E_, n9, g4, Mw⟩ := x_
        try dsimp only at hI ih47 ⊢
        obtain ⟨hk0, hEp, hEs, hn9, hg4, hMw⟩ := hI
        refine g_iload C d_Mo_tour_47 4 rfl ?_
        refine g_aload_n C d_Mo_tour_49 0 rfl ?_
        refine g_get C f_Mo_111 hMw.1 rfl d_Mo_tour_50 ?_
        refine g_icmp_ge C 211 d_Mo_tour_53 rfl (by omega) (fun c9 => ?_) (fun c9 => ?_)
        · have hknt : k = nt := by omega
          rw [hknt] at hEp
          have hCh := isCh_of (w := w) (dy := z2_) (E := E_) e3 (by rw [enl]; exact hEp) hEs
          obtain ⟨hC7, hCn, hClt⟩ := isCh_lt hCh
          have hCl : ∀ k_, k_ ∈ E_.take 7 → k_ < nt := fun k_ hk_ => by have := hClt k_ hk_; omega
          have hCL : (E_.take 7).length = n9 := by rw [List.length_take]; omega
          have hg47 : ∀ j_, j_ < n9 → g4 j_ = (((E_.take 7).getD j_ 0 : Nat) : Int) := fun j_ hj_ => by rw [tk_getD (by omega)]; exact hg4 j_ hj_
          refine g_toX ?_
          refine g_sub [0, 1, 2, 3] rfl (g_loop (σ := Nat × (Nat → Int) × (Nat → Int) × Wm) (fun q_ => q_.1) (fun q_ => (q_.1 ≤ n9) ∧ (∀ _ : Unit, ∀ j_, q_.1 < j_ → j_ ≤ n9 → ¬ (∃ (o_ : List Nat) (W_ : Int), sB s w ((E_.take 7).take j_) o_ W_ ∧ W_ + trW s (E_.take 7) j_ ≤ s 4 w 1)) ∧ (MA tys q_.2.2.2 m a (va_up (va_up (va_up f 24 g4) 25 q_.2.1) 26 q_.2.2.1) 0 (s 0 0 0) ((np : Int)) ((nl : Int)) ((nt : Int)) ((ns : Int)) (s 0 0 5) v7 v8 v9)) (fun q_ => [(0, .ref m), (1, .int (iI ((w : Int)))), (2, .int (iI z2_)), (3, .int (iI ((q_.1 : Int))))]) (fun q_ => q_.2.2.2) ?_ (n9, f 25, f 26, Mw) (⟨Nat.le_refl _, (fun _ j_ h1_ h2_ => by omega), (by rw [va_56]; exact hMw)⟩))
          intro x_ hI ih211
          obtain ⟨n, g5, g6, Mz⟩ := x_
          try dsimp only at hI ih211 ⊢
          obtain ⟨hn0, hno, hMz⟩ := hI
          refine g_iload_n C d_Mo_tour_211 3 rfl ?_
          refine g_if_le C 230 d_Mo_tour_212 rfl (by omega) (fun c10 => ?_) (fun c10 => ?_)
          · obtain rfl : n = 0 := by omega
            obtain ⟨o, W, hB, hfit, ho⟩ : ∃ (o : List Nat) (W : Int), sB s w ((E_.take 7).take 0) o W ∧ (0 = 0 ∨ W + trW s (E_.take 7) 0 ≤ s 4 w 1) ∧ ∀ k_, k_ < 0 → g6 k_ = ((o.getD k_ 0 : Nat) : Int) := by
              refine ⟨[], 0, ⟨List.Perm.refl _, ?_, ?_, fun o_ h1_ h2_ => ?_⟩, Or.inl rfl, fun k_ hk_ => absurd hk_ (Nat.not_lt_zero k_)⟩
              · show ¬ sWay _ _ _ _ = -1
                rw [sWay_self]
                decide
              · show 0 = sWay _ _ _ _
                rw [sWay_self]
              · rw [show o_ = [] from h1_.eq_nil]
                refine ⟨?_, fun _ => trivial⟩
                show 0 ≤ sWay _ _ _ _
                rw [sWay_self]
                decide
            refine g_aload_n C d_Mo_tour_230 0 rfl ?_
            refine g_iload_n C d_Mo_tour_231 1 rfl ?_
            refine g_put C p_Mo_79 hMz.1 rfl rfl (Nat.le_of_ble_eq_true rfl) (fs' := [.int (iI 0), .int (iI (s 0 0 0)), .int (iI ((np : Int))), .ref (a 0), .ref (a 1), .ref (a 2), .int (iI ((nl : Int))), .ref (a 3), .ref (a 4), .ref (a 5), .ref (a 6), .ref (a 7), .ref (a 8), .int (iI ((nt : Int))), .ref (a 9), .ref (a 10), .ref (a 11), .ref (a 12), .ref (a 13), .ref (a 14), .ref (a 15), .ref (a 16), .ref (a 17), .ref (a 18), .int (iI ((ns : Int))), .ref (a 19), .ref (a 20), .ref (a 21), .ref (a 22), .int (iI ((w : Int))), .int (iI v7), .int (iI v8), .int (iI v9), .ref (a 23), .ref (a 24), .ref (a 25), .ref (a 26)]) rfl d_Mo_tour_232 ?_
            refine g_abs (X := fun M_ => MA tys M_ m a (va_up (va_up (va_up f 24 g4) 25 g5) 26 g6) 0 (s 0 0 0) ((np : Int)) ((nl : Int)) ((nt : Int)) ((ns : Int)) ((w : Int)) v7 v8 v9) (MA_V hMz 0 (s 0 0 0) ((np : Int)) ((nl : Int)) ((nt : Int)) ((ns : Int)) ((w : Int)) v7 v8 v9) (fun M11 hM11 => ?_)
            refine g_aload_n C d_Mo_tour_235 0 rfl ?_
            refine g_iload_n C d_Mo_tour_236 2 rfl ?_
            refine g_put C p_Mo_144 hM11.1 rfl rfl (Nat.le_of_ble_eq_true rfl) (fs' := [.int (iI 0), .int (iI (s 0 0 0)), .int (iI ((np : Int))), .ref (a 0), .ref (a 1), .ref (a 2), .int (iI ((nl : Int))), .ref (a 3), .ref (a 4), .ref (a 5), .ref (a 6), .ref (a 7), .ref (a 8), .int (iI ((nt : Int))), .ref (a 9), .ref (a 10), .ref (a 11), .ref (a 12), .ref (a 13), .ref (a 14), .ref (a 15), .ref (a 16), .ref (a 17), .ref (a 18), .int (iI ((ns : Int))), .ref (a 19), .ref (a 20), .ref (a 21), .ref (a 22), .int (iI ((w : Int))), .int (iI z2_), .int (iI v8), .int (iI v9), .ref (a 23), .ref (a 24), .ref (a 25), .ref (a 26)]) rfl d_Mo_tour_237 ?_
            refine g_abs (X := fun M_ => MA tys M_ m a (va_up (va_up (va_up f 24 g4) 25 g5) 26 g6) 0 (s 0 0 0) ((np : Int)) ((nl : Int)) ((nt : Int)) ((ns : Int)) ((w : Int)) z2_ v8 v9) (MA_V hM11 0 (s 0 0 0) ((np : Int)) ((nl : Int)) ((nt : Int)) ((ns : Int)) ((w : Int)) z2_ v8 v9) (fun M12 hM12 => ?_)
            refine g_aload_n C d_Mo_tour_240 0 rfl ?_
            refine g_iload_n C d_Mo_tour_241 3 rfl ?_
            refine g_put C p_Mo_147 hM12.1 rfl rfl (Nat.le_of_ble_eq_true rfl) (fs' := [.int (iI 0), .int (iI (s 0 0 0)), .int (iI ((np : Int))), .ref (a 0), .ref (a 1), .ref (a 2), .int (iI ((nl : Int))), .ref (a 3), .ref (a 4), .ref (a 5), .ref (a 6), .ref (a 7), .ref (a 8), .int (iI ((nt : Int))), .ref (a 9), .ref (a 10), .ref (a 11), .ref (a 12), .ref (a 13), .ref (a 14), .ref (a 15), .ref (a 16), .ref (a 17), .ref (a 18), .int (iI ((ns : Int))), .ref (a 19), .ref (a 20), .ref (a 21), .ref (a 22), .int (iI ((w : Int))), .int (iI z2_), .int (iI (((0 : Nat) : Int))), .int (iI v9), .ref (a 23), .ref (a 24), .ref (a 25), .ref (a 26)]) rfl d_Mo_tour_242 ?_
            refine g_abs (X := fun M_ => MA tys M_ m a (va_up (va_up (va_up f 24 g4) 25 g5) 26 g6) 0 (s 0 0 0) ((np : Int)) ((nl : Int)) ((nt : Int)) ((ns : Int)) ((w : Int)) z2_ (((0 : Nat) : Int)) v9) (MA_V hM12 0 (s 0 0 0) ((np : Int)) ((nl : Int)) ((nt : Int)) ((ns : Int)) ((w : Int)) z2_ (((0 : Nat) : Int)) v9) (fun M13 hM13 => ?_)
            refine g_aload_n C d_Mo_tour_245 0 rfl ?_
            refine g_iconst C d_Mo_tour_246 ?_
            refine g_put C p_Mo_150 hM13.1 rfl rfl (Nat.le_of_ble_eq_true rfl) (fs' := [.int (iI 0), .int (iI (s 0 0 0)), .int (iI ((np : Int))), .ref (a 0), .ref (a 1), .ref (a 2), .int (iI ((nl : Int))), .ref (a 3), .ref (a 4), .ref (a 5), .ref (a 6), .ref (a 7), .ref (a 8), .int (iI ((nt : Int))), .ref (a 9), .ref (a 10), .ref (a 11), .ref (a 12), .ref (a 13), .ref (a 14), .ref (a 15), .ref (a 16), .ref (a 17), .ref (a 18), .int (iI ((ns : Int))), .ref (a 19), .ref (a 20), .ref (a 21), .ref (a 22), .int (iI ((w : Int))), .int (iI z2_), .int (iI (((0 : Nat) : Int))), .int (iI 0), .ref (a 23), .ref (a 24), .ref (a 25), .ref (a 26)]) rfl d_Mo_tour_247 ?_
            refine g_abs (X := fun M_ => MA tys M_ m a (va_up (va_up (va_up f 24 g4) 25 g5) 26 g6) 0 (s 0 0 0) ((np : Int)) ((nl : Int)) ((nt : Int)) ((ns : Int)) ((w : Int)) z2_ (((0 : Nat) : Int)) 0) (MA_V hM13 0 (s 0 0 0) ((np : Int)) ((nl : Int)) ((nt : Int)) ((ns : Int)) ((w : Int)) z2_ (((0 : Nat) : Int)) 0) (fun M14 hM14 => ?_)
            refine g_iconst C d_Mo_tour_250 ?_
            refine g_istore (lv' := [(4, .int (iI 0)), (0, .ref m), (1, .int (iI ((w : Int)))), (2, .int (iI z2_)), (3, .int (iI (((0 : Nat) : Int))))]) C d_Mo_tour_251 (by decide) rfl ?_
            refine g_sub [1, 2, 3, 4, 0] rfl (g_loop (σ := Nat × (Nat → Int) × Wm) (fun q_ => 0 - q_.1) (fun q_ => (q_.1 ≤ 0) ∧ (∀ j_, j_ < q_.1 → q_.2.1 j_ = ((o.getD j_ 0 : Nat) : Int)) ∧ (MA tys q_.2.2 m a (va_up (va_up (va_up (va_up f 24 g4) 25 g5) 26 g6) 23 q_.2.1) 0 (s 0 0 0) ((np : Int)) ((nl : Int)) ((nt : Int)) ((ns : Int)) ((w : Int)) z2_ (((0 : Nat) : Int)) 0)) (fun q_ => [(0, .ref m), (1, .int (iI ((w : Int)))), (2, .int (iI z2_)), (3, .int (iI (((0 : Nat) : Int)))), (4, .int (iI ((q_.1 : Int))))]) (fun q_ => q_.2.2) ?_ (0, f 23, M14) (⟨Nat.zero_le _, (fun j_ hj_ => absurd hj_ (Nat.not_lt_zero j_)), (by rw [va_23]; exact hM14)⟩))
            intro x_ hI ih253
            obtain ⟨t, g3, My⟩ := x_
            try dsimp only at hI ih253 ⊢
            obtain ⟨ht0, hcp, hMy⟩ := hI
            refine g_iload C d_Mo_tour_253 4 rfl ?_
            refine g_iload_n C d_Mo_tour_255 3 rfl ?_
            refine g_icmp_ge C 279 d_Mo_tour_256 rfl (by omega) (fun c15 => ?_) (fun c15 => ?_)
            · refine g_iload_n C d_Mo_tour_279 3 rfl ?_
              exact g_iret C hr d_Mo_tour_280 (Or.inl ⟨by omega, sTr s w z2_ 0 o W, ⟨E_.take 7, 0, o, W, hCh, by omega, hB, hfit, fun j_ h1_ h2_ => hno () j_ h1_ (by omega), rfl⟩, rfl, RM_of (s := sTr s w z2_ 0 o W) hMy rfl e1.symm e2.symm e3.symm e4.symm rfl e1 e2 e3 e4 hr9 ⟨by omega, by omega, fun _ => ⟨rfl, rfl, rfl, fun k_ hk_ => hcp k_ (by have h_ : k_ < ((0 : Nat) : Int).toNat := hk_; omega)⟩⟩⟩)
            · refine g_aload_n C d_Mo_tour_259 0 rfl ?_
              refine g_get C f_Mo_83 hMy.1 rfl d_Mo_tour_260 ?_
              refine g_iload C d_Mo_tour_263 4 rfl ?_
              refine g_aload_n C d_Mo_tour_265 0 rfl ?_
              refine g_get C f_Mo_92 hMy.1 rfl d_Mo_tour_266 ?_
              refine g_iload C d_Mo_tour_269 4 rfl ?_
              refine g_ialdN C 0 hT0 (show My (a 26) = some (aI tys 7 g6) from hMy.2.1 26 (by decide)) t (by omega) (by omega) d_Mo_tour_271 ?_
              rw [ho t (by omega)]
              refine g_iastN C 0 hT0 (show My (a 23) = some (aI tys 20 g3) from hMy.2.1 23 (by decide)) t (by omega) (by omega) d_Mo_tour_272 ?_ rfl
              refine g_abs (X := fun M_ => MA tys M_ m a (va_up (va_up (va_up (va_up (va_up f 24 g4) 25 g5) 26 g6) 23 g3) 23 (va_up g3 t (((o.getD t 0 : Nat) : Int)))) 0 (s 0 0 0) ((np : Int)) ((nl : Int)) ((nt : Int)) ((ns : Int)) ((w : Int)) z2_ (((0 : Nat) : Int)) 0) (MA_F hMy 23 (by decide) (va_up g3 t (((o.getD t 0 : Nat) : Int))) rfl) (fun M16 hM16 => ?_)
              refine g_iinc (lv' := [(4, .int (iI (((t : Int)) + 1))), (0, .ref m), (1, .int (iI ((w : Int)))), (2, .int (iI z2_)), (3, .int (iI (((0 : Nat) : Int))))]) C d_Mo_tour_273 4 rfl (by decide) rfl ?_
              refine g_goto C 253 d_Mo_tour_276 rfl ?_
              have hMs2 : MA tys M16 m a (va_up (va_up (va_up (va_up f 24 g4) 25 g5) 26 g6) 23 (va_up g3 t (((o.getD t 0 : Nat) : Int)))) 0 (s 0 0 0) ((np : Int)) ((nl : Int)) ((nt : Int)) ((ns : Int)) ((w : Int)) z2_ (((0 : Nat) : Int)) 0 := by have h_ := hM16; rw [bx_uu] at h_; exact h_
              have q1 : ∀ j_, j_ < t + 1 → (va_up g3 t (((o.getD t 0 : Nat) : Int))) j_ = ((o.getD j_ 0 : Nat) : Int) := by
                intro j_ hj_
                by_cases e_ : j_ = t
                · subst e_; rw [iu_s]
                · rw [iu_n e_]; exact hcp j_ (by omega)
              exact g_sub [1, 2, 3, 4, 0] rfl (ih253 (t + 1, (va_up g3 t (((o.getD t 0 : Nat) : Int))), M16) ⟨(show t + 1 ≤ 0 by omega), q1, hMs2⟩ (by first | omega | (dsimp only; omega)))
          · refine g_aload_n C d_Mo_tour_215 0 rfl ?_
            refine g_iload_n C d_Mo_tour_216 1 rfl ?_
            refine g_iload_n C d_Mo_tour_217 3 rfl ?_
            refine g_calli C (run_V C [.int (iI ((w : Int))), .int (iI ((n : Int)))] k_Mo_141 (ct_Mo_isTour l D tys A Mz hT9 m a (va_up (va_up (va_up f 24 g4) 25 g5) 26 g6) 0 (s 0 0 0) ((np : Int)) ((nt : Int)) ((ns : Int)) (s 0 0 5) v7 v8 v9 s np nl nt ns hS0 hr9 w n (by omega) (E_.take 7) hCn hCl (by omega) (fun k_ hk_ => hg47 k_ (by omega)) hMz) hMz.1 ⟨rfl, rfl, Nat.le_of_ble_eq_true rfl, Nat.le_of_ble_eq_true rfl⟩ rfl rfl (Nat.le_of_ble_eq_true rfl) d_Mo_tour_218 ⟨Nat.le_of_ble_eq_true rfl, Nat.le_of_ble_eq_true rfl⟩) (fun z18 M17 hM17 => ?_)
            obtain ⟨h5, h6, hMn, hres⟩ := hM17
            rw [va_4] at hMn
            have hz01 : z18 = 0 ∨ z18 = 1 := by
              rcases hres with ⟨h_, -⟩ | ⟨h_, -⟩ <;> omega
            replace hres := hres
            refine g_if_ne C 230 d_Mo_tour_221 rfl (by omega) (fun c19 => ?_) (fun c19 => ?_)
            · obtain ⟨o, W, hB, hfit, ho⟩ : ∃ (o : List Nat) (W : Int), sB s w ((E_.take 7).take n) o W ∧ (n = 0 ∨ W + trW s (E_.take 7) n ≤ s 4 w 1) ∧ ∀ k_, k_ < n → h6 k_ = ((o.getD k_ 0 : Nat) : Int) := by
                rcases hres with ⟨-, o_, W_, h1_, h2_, h3_⟩ | ⟨h1_, -⟩
                · exact ⟨o_, W_, h1_, Or.inr h2_, h3_⟩
                · omega
              clear hres
              refine g_aload_n C d_Mo_tour_230 0 rfl ?_
              refine g_iload_n C d_Mo_tour_231 1 rfl ?_
              refine g_put C p_Mo_79 hMn.1 rfl rfl (Nat.le_of_ble_eq_true rfl) (fs' := [.int (iI 0), .int (iI (s 0 0 0)), .int (iI ((np : Int))), .ref (a 0), .ref (a 1), .ref (a 2), .int (iI ((nl : Int))), .ref (a 3), .ref (a 4), .ref (a 5), .ref (a 6), .ref (a 7), .ref (a 8), .int (iI ((nt : Int))), .ref (a 9), .ref (a 10), .ref (a 11), .ref (a 12), .ref (a 13), .ref (a 14), .ref (a 15), .ref (a 16), .ref (a 17), .ref (a 18), .int (iI ((ns : Int))), .ref (a 19), .ref (a 20), .ref (a 21), .ref (a 22), .int (iI ((w : Int))), .int (iI v7), .int (iI v8), .int (iI v9), .ref (a 23), .ref (a 24), .ref (a 25), .ref (a 26)]) rfl d_Mo_tour_232 ?_
              refine g_abs (X := fun M_ => MA tys M_ m a (va_up (va_up (va_up f 24 g4) 25 h5) 26 h6) 0 (s 0 0 0) ((np : Int)) ((nl : Int)) ((nt : Int)) ((ns : Int)) ((w : Int)) v7 v8 v9) (MA_V hMn 0 (s 0 0 0) ((np : Int)) ((nl : Int)) ((nt : Int)) ((ns : Int)) ((w : Int)) v7 v8 v9) (fun M20 hM20 => ?_)
              refine g_aload_n C d_Mo_tour_235 0 rfl ?_
              refine g_iload_n C d_Mo_tour_236 2 rfl ?_
              refine g_put C p_Mo_144 hM20.1 rfl rfl (Nat.le_of_ble_eq_true rfl) (fs' := [.int (iI 0), .int (iI (s 0 0 0)), .int (iI ((np : Int))), .ref (a 0), .ref (a 1), .ref (a 2), .int (iI ((nl : Int))), .ref (a 3), .ref (a 4), .ref (a 5), .ref (a 6), .ref (a 7), .ref (a 8), .int (iI ((nt : Int))), .ref (a 9), .ref (a 10), .ref (a 11), .ref (a 12), .ref (a 13), .ref (a 14), .ref (a 15), .ref (a 16), .ref (a 17), .ref (a 18), .int (iI ((ns : Int))), .ref (a 19), .ref (a 20), .ref (a 21), .ref (a 22), .int (iI ((w : Int))), .int (iI z2_), .int (iI v8), .int (iI v9), .ref (a 23), .ref (a 24), .ref (a 25), .ref (a 26)]) rfl d_Mo_tour_237 ?_
              refine g_abs (X := fun M_ => MA tys M_ m a (va_up (va_up (va_up f 24 g4) 25 h5) 26 h6) 0 (s 0 0 0) ((np : Int)) ((nl : Int)) ((nt : Int)) ((ns : Int)) ((w : Int)) z2_ v8 v9) (MA_V hM20 0 (s 0 0 0) ((np : Int)) ((nl : Int)) ((nt : Int)) ((ns : Int)) ((w : Int)) z2_ v8 v9) (fun M21 hM21 => ?_)
              refine g_aload_n C d_Mo_tour_240 0 rfl ?_
              refine g_iload_n C d_Mo_tour_241 3 rfl ?_
              refine g_put C p_Mo_147 hM21.1 rfl rfl (Nat.le_of_ble_eq_true rfl) (fs' := [.int (iI 0), .int (iI (s 0 0 0)), .int (iI ((np : Int))), .ref (a 0), .ref (a 1), .ref (a 2), .int (iI ((nl : Int))), .ref (a 3), .ref (a 4), .ref (a 5), .ref (a 6), .ref (a 7), .ref (a 8), .int (iI ((nt : Int))), .ref (a 9), .ref (a 10), .ref (a 11), .ref (a 12), .ref (a 13), .ref (a 14), .ref (a 15), .ref (a 16), .ref (a 17), .ref (a 18), .int (iI ((ns : Int))), .ref (a 19), .ref (a 20), .ref (a 21), .ref (a 22), .int (iI ((w : Int))), .int (iI z2_), .int (iI ((n : Int))), .int (iI v9), .ref (a 23), .ref (a 24), .ref (a 25), .ref (a 26)]) rfl d_Mo_tour_242 ?_
              refine g_abs (X := fun M_ => MA tys M_ m a (va_up (va_up (va_up f 24 g4) 25 h5) 26 h6) 0 (s 0 0 0) ((np : Int)) ((nl : Int)) ((nt : Int)) ((ns : Int)) ((w : Int)) z2_ ((n : Int)) v9) (MA_V hM21 0 (s 0 0 0) ((np : Int)) ((nl : Int)) ((nt : Int)) ((ns : Int)) ((w : Int)) z2_ ((n : Int)) v9) (fun M22 hM22 => ?_)
              refine g_aload_n C d_Mo_tour_245 0 rfl ?_
              refine g_iconst C d_Mo_tour_246 ?_
              refine g_put C p_Mo_150 hM22.1 rfl rfl (Nat.le_of_ble_eq_true rfl) (fs' := [.int (iI 0), .int (iI (s 0 0 0)), .int (iI ((np : Int))), .ref (a 0), .ref (a 1), .ref (a 2), .int (iI ((nl : Int))), .ref (a 3), .ref (a 4), .ref (a 5), .ref (a 6), .ref (a 7), .ref (a 8), .int (iI ((nt : Int))), .ref (a 9), .ref (a 10), .ref (a 11), .ref (a 12), .ref (a 13), .ref (a 14), .ref (a 15), .ref (a 16), .ref (a 17), .ref (a 18), .int (iI ((ns : Int))), .ref (a 19), .ref (a 20), .ref (a 21), .ref (a 22), .int (iI ((w : Int))), .int (iI z2_), .int (iI ((n : Int))), .int (iI 0), .ref (a 23), .ref (a 24), .ref (a 25), .ref (a 26)]) rfl d_Mo_tour_247 ?_
              refine g_abs (X := fun M_ => MA tys M_ m a (va_up (va_up (va_up f 24 g4) 25 h5) 26 h6) 0 (s 0 0 0) ((np : Int)) ((nl : Int)) ((nt : Int)) ((ns : Int)) ((w : Int)) z2_ ((n : Int)) 0) (MA_V hM22 0 (s 0 0 0) ((np : Int)) ((nl : Int)) ((nt : Int)) ((ns : Int)) ((w : Int)) z2_ ((n : Int)) 0) (fun M23 hM23 => ?_)
              refine g_iconst C d_Mo_tour_250 ?_
              refine g_istore (lv' := [(4, .int (iI 0)), (0, .ref m), (1, .int (iI ((w : Int)))), (2, .int (iI z2_)), (3, .int (iI ((n : Int))))]) C d_Mo_tour_251 (by decide) rfl ?_
              refine g_sub [1, 2, 3, 4, 0] rfl (g_loop (σ := Nat × (Nat → Int) × Wm) (fun q_ => n - q_.1) (fun q_ => (q_.1 ≤ n) ∧ (∀ j_, j_ < q_.1 → q_.2.1 j_ = ((o.getD j_ 0 : Nat) : Int)) ∧ (MA tys q_.2.2 m a (va_up (va_up (va_up (va_up f 24 g4) 25 h5) 26 h6) 23 q_.2.1) 0 (s 0 0 0) ((np : Int)) ((nl : Int)) ((nt : Int)) ((ns : Int)) ((w : Int)) z2_ ((n : Int)) 0)) (fun q_ => [(0, .ref m), (1, .int (iI ((w : Int)))), (2, .int (iI z2_)), (3, .int (iI ((n : Int)))), (4, .int (iI ((q_.1 : Int))))]) (fun q_ => q_.2.2) ?_ (0, f 23, M23) (⟨Nat.zero_le _, (fun j_ hj_ => absurd hj_ (Nat.not_lt_zero j_)), (by rw [va_23]; exact hM23)⟩))
              intro x_ hI ih253
              obtain ⟨t, g3, My⟩ := x_
              try dsimp only at hI ih253 ⊢
              obtain ⟨ht0, hcp, hMy⟩ := hI
              refine g_iload C d_Mo_tour_253 4 rfl ?_
              refine g_iload_n C d_Mo_tour_255 3 rfl ?_
              refine g_icmp_ge C 279 d_Mo_tour_256 rfl (by omega) (fun c24 => ?_) (fun c24 => ?_)
              · refine g_iload_n C d_Mo_tour_279 3 rfl ?_
                exact g_iret C hr d_Mo_tour_280 (Or.inl ⟨by omega, sTr s w z2_ n o W, ⟨E_.take 7, n, o, W, hCh, by omega, hB, hfit, fun j_ h1_ h2_ => hno () j_ h1_ (by omega), rfl⟩, rfl, RM_of (s := sTr s w z2_ n o W) hMy rfl e1.symm e2.symm e3.symm e4.symm rfl e1 e2 e3 e4 hr9 ⟨by omega, by omega, fun _ => ⟨rfl, rfl, rfl, fun k_ hk_ => hcp k_ (by have h_ : k_ < ((n : Nat) : Int).toNat := hk_; omega)⟩⟩⟩)
              · refine g_aload_n C d_Mo_tour_259 0 rfl ?_
                refine g_get C f_Mo_83 hMy.1 rfl d_Mo_tour_260 ?_
                refine g_iload C d_Mo_tour_263 4 rfl ?_
                refine g_aload_n C d_Mo_tour_265 0 rfl ?_
                refine g_get C f_Mo_92 hMy.1 rfl d_Mo_tour_266 ?_
                refine g_iload C d_Mo_tour_269 4 rfl ?_
                refine g_ialdN C 0 hT0 (show My (a 26) = some (aI tys 7 h6) from hMy.2.1 26 (by decide)) t (by omega) (by omega) d_Mo_tour_271 ?_
                rw [ho t (by omega)]
                refine g_iastN C 0 hT0 (show My (a 23) = some (aI tys 20 g3) from hMy.2.1 23 (by decide)) t (by omega) (by omega) d_Mo_tour_272 ?_ rfl
                refine g_abs (X := fun M_ => MA tys M_ m a (va_up (va_up (va_up (va_up (va_up f 24 g4) 25 h5) 26 h6) 23 g3) 23 (va_up g3 t (((o.getD t 0 : Nat) : Int)))) 0 (s 0 0 0) ((np : Int)) ((nl : Int)) ((nt : Int)) ((ns : Int)) ((w : Int)) z2_ ((n : Int)) 0) (MA_F hMy 23 (by decide) (va_up g3 t (((o.getD t 0 : Nat) : Int))) rfl) (fun M25 hM25 => ?_)
                refine g_iinc (lv' := [(4, .int (iI (((t : Int)) + 1))), (0, .ref m), (1, .int (iI ((w : Int)))), (2, .int (iI z2_)), (3, .int (iI ((n : Int))))]) C d_Mo_tour_273 4 rfl (by decide) rfl ?_
                refine g_goto C 253 d_Mo_tour_276 rfl ?_
                have hMs2 : MA tys M25 m a (va_up (va_up (va_up (va_up f 24 g4) 25 h5) 26 h6) 23 (va_up g3 t (((o.getD t 0 : Nat) : Int)))) 0 (s 0 0 0) ((np : Int)) ((nl : Int)) ((nt : Int)) ((ns : Int)) ((w : Int)) z2_ ((n : Int)) 0 := by have h_ := hM25; rw [bx_uu] at h_; exact h_
                have q1 : ∀ j_, j_ < t + 1 → (va_up g3 t (((o.getD t 0 : Nat) : Int))) j_ = ((o.getD j_ 0 : Nat) : Int) := by
                  intro j_ hj_
                  by_cases e_ : j_ = t
                  · subst e_; rw [iu_s]
                  · rw [iu_n e_]; exact hcp j_ (by omega)
                exact g_sub [1, 2, 3, 4, 0] rfl (ih253 (t + 1, (va_up g3 t (((o.getD t 0 : Nat) : Int))), M25) ⟨(show t + 1 ≤ n by omega), q1, hMs2⟩ (by first | omega | (dsimp only; omega)))
            · refine g_iinc (lv' := [(3, .int (iI (((n : Int)) + (-1)))), (0, .ref m), (1, .int (iI ((w : Int)))), (2, .int (iI z2_))]) C d_Mo_tour_224 3 rfl (by decide) rfl ?_
              refine g_goto C 211 d_Mo_tour_227 rfl ?_
              rw [show ((n : Int)) + (-1) = ((n - 1 : Nat) : Int) by omega]
              exact g_sub [1, 2, 3, 0] rfl (ih211 (n - 1, h5, h6, M17) ⟨(show n - 1 ≤ n9 by omega), (fun _ j_ h1_ h2_ h3_ => by
                  by_cases e_ : j_ = n
                  · subst e_
                    rcases hres with ⟨h4_, -⟩ | ⟨-, h4_⟩
                    · omega
                    · exact h4_ h3_
                  · exact hno () j_ (by omega) h2_ h3_), hMn⟩ (by first | omega | (dsimp only; omega)))
        · have htk := rt k (by omega)
          have htko := (okt k (by omega)).1
          have htku := htko
          unfold okT at htko
          have htk9 := (okt k (by omega)).2
          obtain ⟨ak, hak⟩ : ∃ ak : Nat, s 3 k 9 = (ak : Int) := ⟨(s 3 k 9).toNat, by omega⟩
          have hakP : s 1 ak = sPP s k := by unfold sPP; rw [hak]; rfl
          have hElt : ∀ a_, a_ ∈ E_ → a_ < k := fun a_ ha_ => List.mem_range.mp (List.mem_filter.mp (hEp.mem_iff.mp ha_)).1
          have hsb := sBit_b (s 4 w 0) (s 3 k 0)
          refine g_aload_n C d_Mo_tour_56 0 rfl ?_
          refine g_iload C d_Mo_tour_57 4 rfl ?_
          refine g_calliP C (run_V C [.int (iI ((k : Int)))] k_Mo_129 (ct_Mo_dueDay l D tys A Mw hT9 m a (va_up f 24 g4) 0 (s 0 0 0) ((np : Int)) ((nl : Int)) ((nt : Int)) ((ns : Int)) (s 0 0 5) v7 v8 v9 s np nl nt ns hS0 hr9 k (by omega) hMw) hMw.1 ⟨rfl, rfl, Nat.le_of_ble_eq_true rfl, Nat.le_of_ble_eq_true rfl⟩ rfl rfl (Nat.le_of_ble_eq_true rfl) d_Mo_tour_59 ⟨Nat.le_of_ble_eq_true rfl, Nat.le_of_ble_eq_true rfl⟩) (fun z26 hz26 => ?_)
          subst hz26
          have hdz26 := sDue_b (okt k (by omega)).1
          refine g_iload_n C d_Mo_tour_62 2 rfl ?_
          refine g_icmp_gt C 205 d_Mo_tour_63 rfl (by omega) (fun c27 => ?_) (fun c27 => ?_)
          · refine g_iinc (lv' := [(4, .int (iI (((k : Int)) + 1))), (0, .ref m), (1, .int (iI ((w : Int)))), (2, .int (iI z2_)), (3, .int (iI ((n9 : Int))))]) C d_Mo_tour_205 4 rfl (by decide) rfl ?_
            refine g_goto C 47 d_Mo_tour_208 rfl ?_
            have hel : ¬ (el nl (s 2) (sHP s w) (s 4 w) z2_ (sPP s) (s 3)) k = true := fun h_ => by
              rw [el_iff] at h_
              obtain ⟨h1_, h2_, h3_⟩ := h_
              omega
            exact g_sub [1, 2, 3, 4, 0] rfl (ih47 (k + 1, E_, n9, g4, Mw) ⟨(show k + 1 ≤ nt by omega), (by rw [fl_s.2 hel]; exact hEp), hEs, hn9, hg4, hMw⟩ (by first | omega | (dsimp only; omega)))
          · refine g_aload_n C d_Mo_tour_66 0 rfl ?_
            refine g_get C f_Mo_67 hMw.1 rfl d_Mo_tour_67 ?_
            refine g_iload_n C d_Mo_tour_70 1 rfl ?_
            refine g_ialdN C 0 hT0 (show Mw (a 19) = some (aI tys 8 (f 19)) from hMw.2.1 19 (by decide)) w (by omega) (by omega) d_Mo_tour_71 ?_
            rw [hpw.1]
            refine g_aload_n C d_Mo_tour_72 0 rfl ?_
            refine g_get C f_Mo_40 hMw.1 rfl d_Mo_tour_73 ?_
            refine g_iload C d_Mo_tour_76 4 rfl ?_
            refine g_ialdN C 0 hT0 (show Mw (a 10) = some (aI tys 40 (f 10)) from hMw.2.1 10 (by decide)) k (by omega) (by omega) d_Mo_tour_78 ?_
            rw [htk.2.1]
            refine g_ishr C (((s 4 w 0).toNat / 2 ^ (s 3 k 0).toNat : Nat) : Int) (shr_i (by omega) (by omega)) d_Mo_tour_79 ?_
            refine g_iconst C d_Mo_tour_80 ?_
            refine g_iand C (sBit (s 4 w 0) (s 3 k 0)) (and1_i (by omega)) d_Mo_tour_81 ?_
            refine g_if_eq C 205 d_Mo_tour_82 rfl (by omega) (fun c28 => ?_) (fun c28 => ?_)
            · refine g_iinc (lv' := [(4, .int (iI (((k : Int)) + 1))), (0, .ref m), (1, .int (iI ((w : Int)))), (2, .int (iI z2_)), (3, .int (iI ((n9 : Int))))]) C d_Mo_tour_205 4 rfl (by decide) rfl ?_
              refine g_goto C 47 d_Mo_tour_208 rfl ?_
              have hel : ¬ (el nl (s 2) (sHP s w) (s 4 w) z2_ (sPP s) (s 3)) k = true := fun h_ => by
                rw [el_iff] at h_
                obtain ⟨h1_, h2_, h3_⟩ := h_
                omega
              exact g_sub [1, 2, 3, 4, 0] rfl (ih47 (k + 1, E_, n9, g4, Mw) ⟨(show k + 1 ≤ nt by omega), (by rw [fl_s.2 hel]; exact hEp), hEs, hn9, hg4, hMw⟩ (by first | omega | (dsimp only; omega)))
            · refine g_aload_n C d_Mo_tour_85 0 rfl ?_
              refine g_aload_n C d_Mo_tour_86 0 rfl ?_
              refine g_get C f_Mo_70 hMw.1 rfl d_Mo_tour_87 ?_
              refine g_iload_n C d_Mo_tour_90 1 rfl ?_
              refine g_ialdN C 0 hT0 (show Mw (a 20) = some (aI tys 8 (f 20)) from hMw.2.1 20 (by decide)) w (by omega) (by omega) d_Mo_tour_91 ?_
              rw [hpw.2.1.trans hh]
              refine g_aload_n C d_Mo_tour_92 0 rfl ?_
              refine g_get C f_Mo_37 hMw.1 rfl d_Mo_tour_93 ?_
              refine g_iload C d_Mo_tour_96 4 rfl ?_
              refine g_ialdN C 0 hT0 (show Mw (a 9) = some (aI tys 40 (f 9)) from hMw.2.1 9 (by decide)) k (by omega) (by omega) d_Mo_tour_98 ?_
              rw [htk.1.trans hak]
              refine g_calliP C (run_V C [.int (iI ((h : Int))), .int (iI ((ak : Int)))] k_Mo_126 (ct_Mo_way l D tys A Mw hT9 m a (va_up f 24 g4) 0 (s 0 0 0) ((np : Int)) ((nt : Int)) ((ns : Int)) (s 0 0 5) v7 v8 v9 s np nl nt ns hS0 hr9 h ak (by omega) (by omega) hMw) hMw.1 ⟨rfl, rfl, Nat.le_of_ble_eq_true rfl, Nat.le_of_ble_eq_true rfl⟩ rfl rfl (Nat.le_of_ble_eq_true rfl) d_Mo_tour_99 ⟨Nat.le_of_ble_eq_true rfl, Nat.le_of_ble_eq_true rfl⟩) (fun z29 hz29 => ?_)
              have hbz29 := sWay_b (nl := nl) oklf (okp h (by omega)) (okp ak (by omega))
              refine g_if_ge C 108 d_Mo_tour_102 rfl (by omega) (fun c30 => ?_) (fun c30 => ?_)
              · refine g_iload_n C d_Mo_tour_108 3 rfl ?_
                refine g_bipush C d_Mo_tour_109 (by decide) ?_
                refine g_icmp_ge C 118 d_Mo_tour_111 rfl (by omega) (fun c31 => ?_) (fun c31 => ?_)
                · refine g_bipush C d_Mo_tour_118 (by decide) ?_
                  refine g_istore (lv' := [(5, .int (iI 7)), (0, .ref m), (1, .int (iI ((w : Int)))), (2, .int (iI z2_)), (3, .int (iI ((n9 : Int)))), (4, .int (iI ((k : Int))))]) C d_Mo_tour_120 (by decide) rfl ?_
                  refine g_eq (lv' := [(5, .int (iI ((n9 : Int)))), (0, .ref m), (1, .int (iI ((w : Int)))), (2, .int (iI z2_)), (3, .int (iI ((n9 : Int)))), (4, .int (iI ((k : Int))))]) (by rw [show n9 = 7 by omega]; rfl) rfl ?_
                  refine g_sub [1, 2, 3, 4, 5, 0] rfl (g_loop (σ := Nat × (Nat → Int) × Wm) (fun q_ => q_.1) (fun q_ => (q_.1 ≤ n9) ∧ (∀ j_, j_ < q_.1 → q_.2.1 j_ = ((E_.getD j_ 0 : Nat) : Int)) ∧ (∀ j_, q_.1 < j_ → j_ ≤ n9 → j_ < 7 → q_.2.1 j_ = ((E_.getD (j_ - 1) 0 : Nat) : Int)) ∧ (∀ j_, q_.1 ≤ j_ → j_ < n9 → sDue (s 3 k) < sDue (s 3 (E_.getD j_ 0))) ∧ (MA tys q_.2.2 m a (va_up f 24 q_.2.1) 0 (s 0 0 0) ((np : Int)) ((nl : Int)) ((nt : Int)) ((ns : Int)) (s 0 0 5) v7 v8 v9)) (fun q_ => [(0, .ref m), (1, .int (iI ((w : Int)))), (2, .int (iI z2_)), (3, .int (iI ((n9 : Int)))), (4, .int (iI ((k : Int)))), (5, .int (iI ((q_.1 : Int))))]) (fun q_ => q_.2.2) ?_ (n9, g4, Mw) (⟨Nat.le_refl _, hg4, (fun j_ h1_ h2_ => by omega), (fun j_ h1_ h2_ => by omega), hMw⟩))
                  intro x_ hI ih122
                  obtain ⟨i, g, Mv⟩ := x_
                  try dsimp only at hI ih122 ⊢
                  obtain ⟨hi0, hi1, hi2, hi3, hMv⟩ := hI
                  refine g_iload C d_Mo_tour_122 5 rfl ?_
                  refine g_if_le C 174 d_Mo_tour_124 rfl (by omega) (fun c32 => ?_) (fun c32 => ?_)
                  · refine g_iload C d_Mo_tour_174 5 rfl ?_
                    refine g_bipush C d_Mo_tour_176 (by decide) ?_
                    refine g_icmp_ge C 190 d_Mo_tour_178 rfl (by omega) (fun c33 => ?_) (fun c33 => ?_)
                    · refine g_iload_n C d_Mo_tour_190 3 rfl ?_
                      refine g_bipush C d_Mo_tour_191 (by decide) ?_
                      refine g_icmp_ge C 202 d_Mo_tour_193 rfl (by omega) (fun c34 => ?_) (fun c34 => ?_)
                      · refine g_bipush C d_Mo_tour_202 (by decide) ?_
                        refine g_istore_n (lv' := [(3, .int (iI 7)), (0, .ref m), (1, .int (iI ((w : Int)))), (2, .int (iI z2_)), (4, .int (iI ((k : Int)))), (5, .int (iI ((i : Int))))]) C d_Mo_tour_204 (by decide) rfl ?_
                        refine g_iinc (lv' := [(4, .int (iI (((k : Int)) + 1))), (3, .int (iI 7)), (0, .ref m), (1, .int (iI ((w : Int)))), (2, .int (iI z2_)), (5, .int (iI ((i : Int))))]) C d_Mo_tour_205 4 rfl (by decide) rfl ?_
                        refine g_goto C 47 d_Mo_tour_208 rfl ?_
                        have hMs2 := hMv
                        have hel : (el nl (s 2) (sHP s w) (s 4 w) z2_ (sPP s) (s 3)) k = true := by
                          rw [el_iff]
                          exact ⟨by omega, by omega, by rw [← hhH, ← hakP, ← hz29]; omega⟩
                        obtain ⟨E2, q1, q2, q3, q4⟩ := sel_ins (d := (fun k_ => sDue (s 3 k_))) (k := k) (n' := 7) (g' := (g)) hElt hEs hn9 hi0 hi1 hi2 hi3 (by omega) (fun j_ hj_ => (if_neg (show ¬ j_ = i by omega)).symm) (by omega)
                        
                        exact g_sub [2, 3, 4, 1, 0] rfl (ih47 (k + 1, E2, 7, (g), Mv) ⟨(show k + 1 ≤ nt by omega), (by rw [fl_s.1 hel]; exact q1.trans ((hEp.cons k).trans (List.perm_append_singleton _ _).symm)), q2, q3, q4, hMs2⟩ (by first | omega | (dsimp only; omega)))
                      · refine g_iload_n C d_Mo_tour_196 3 rfl ?_
                        refine g_iconst C d_Mo_tour_197 ?_
                        refine g_iadd C d_Mo_tour_198 ?_
                        refine g_goto C 204 d_Mo_tour_199 rfl ?_
                        refine g_istore_n (lv' := [(3, .int (iI (((n9 : Int)) + 1))), (0, .ref m), (1, .int (iI ((w : Int)))), (2, .int (iI z2_)), (4, .int (iI ((k : Int)))), (5, .int (iI ((i : Int))))]) C d_Mo_tour_204 (by decide) rfl ?_
                        refine g_iinc (lv' := [(4, .int (iI (((k : Int)) + 1))), (3, .int (iI (((n9 : Int)) + 1))), (0, .ref m), (1, .int (iI ((w : Int)))), (2, .int (iI z2_)), (5, .int (iI ((i : Int))))]) C d_Mo_tour_205 4 rfl (by decide) rfl ?_
                        refine g_goto C 47 d_Mo_tour_208 rfl ?_
                        have hMs2 := hMv
                        have hel : (el nl (s 2) (sHP s w) (s 4 w) z2_ (sPP s) (s 3)) k = true := by
                          rw [el_iff]
                          exact ⟨by omega, by omega, by rw [← hhH, ← hakP, ← hz29]; omega⟩
                        obtain ⟨E2, q1, q2, q3, q4⟩ := sel_ins (d := (fun k_ => sDue (s 3 k_))) (k := k) (n' := (n9 + 1)) (g' := (g)) hElt hEs hn9 hi0 hi1 hi2 hi3 (by omega) (fun j_ hj_ => (if_neg (show ¬ j_ = i by omega)).symm) (by omega)
                        rw [show ((n9 : Int)) + 1 = ((n9 + 1 : Nat) : Int) by omega]
                        exact g_sub [2, 3, 4, 1, 0] rfl (ih47 (k + 1, E2, (n9 + 1), (g), Mv) ⟨(show k + 1 ≤ nt by omega), (by rw [fl_s.1 hel]; exact q1.trans ((hEp.cons k).trans (List.perm_append_singleton _ _).symm)), q2, q3, q4, hMs2⟩ (by first | omega | (dsimp only; omega)))
                    · refine g_aload_n C d_Mo_tour_181 0 rfl ?_
                      refine g_get C f_Mo_86 hMv.1 rfl d_Mo_tour_182 ?_
                      refine g_iload C d_Mo_tour_185 5 rfl ?_
                      refine g_iload C d_Mo_tour_187 4 rfl ?_
                      refine g_iastN C 0 hT0 (show Mv (a 24) = some (aI tys 7 g) from hMv.2.1 24 (by decide)) i (by omega) (by omega) d_Mo_tour_189 ?_ rfl
                      refine g_abs (X := fun M_ => MA tys M_ m a (va_up (va_up f 24 g) 24 (va_up g i ((k : Int)))) 0 (s 0 0 0) ((np : Int)) ((nl : Int)) ((nt : Int)) ((ns : Int)) (s 0 0 5) v7 v8 v9) (MA_F hMv 24 (by decide) (va_up g i ((k : Int))) rfl) (fun M35 hM35 => ?_)
                      refine g_iload_n C d_Mo_tour_190 3 rfl ?_
                      refine g_bipush C d_Mo_tour_191 (by decide) ?_
                      refine g_icmp_ge C 202 d_Mo_tour_193 rfl (by omega) (fun c36 => ?_) (fun c36 => ?_)
                      · refine g_bipush C d_Mo_tour_202 (by decide) ?_
                        refine g_istore_n (lv' := [(3, .int (iI 7)), (0, .ref m), (1, .int (iI ((w : Int)))), (2, .int (iI z2_)), (4, .int (iI ((k : Int)))), (5, .int (iI ((i : Int))))]) C d_Mo_tour_204 (by decide) rfl ?_
                        refine g_iinc (lv' := [(4, .int (iI (((k : Int)) + 1))), (3, .int (iI 7)), (0, .ref m), (1, .int (iI ((w : Int)))), (2, .int (iI z2_)), (5, .int (iI ((i : Int))))]) C d_Mo_tour_205 4 rfl (by decide) rfl ?_
                        refine g_goto C 47 d_Mo_tour_208 rfl ?_
                        have hMs2 : MA tys M35 m a (va_up f 24 (va_up g i ((k : Int)))) 0 (s 0 0 0) ((np : Int)) ((nl : Int)) ((nt : Int)) ((ns : Int)) (s 0 0 5) v7 v8 v9 := by have h_ := hM35; rw [bx_uu] at h_; exact h_
                        have hel : (el nl (s 2) (sHP s w) (s 4 w) z2_ (sPP s) (s 3)) k = true := by
                          rw [el_iff]
                          exact ⟨by omega, by omega, by rw [← hhH, ← hakP, ← hz29]; omega⟩
                        obtain ⟨E2, q1, q2, q3, q4⟩ := sel_ins (d := (fun k_ => sDue (s 3 k_))) (k := k) (n' := 7) (g' := (va_up g i ((k : Int)))) hElt hEs hn9 hi0 hi1 hi2 hi3 (by omega) (fun j_ hj_ => by
                            by_cases e_ : j_ = i
                            · subst e_; rw [iu_s, if_pos rfl]
                            · rw [iu_n e_, if_neg e_]) (by omega)
                        
                        exact g_sub [2, 3, 4, 1, 0] rfl (ih47 (k + 1, E2, 7, (va_up g i ((k : Int))), M35) ⟨(show k + 1 ≤ nt by omega), (by rw [fl_s.1 hel]; exact q1.trans ((hEp.cons k).trans (List.perm_append_singleton _ _).symm)), q2, q3, q4, hMs2⟩ (by first | omega | (dsimp only; omega)))
                      · refine g_iload_n C d_Mo_tour_196 3 rfl ?_
                        refine g_iconst C d_Mo_tour_197 ?_
                        refine g_iadd C d_Mo_tour_198 ?_
                        refine g_goto C 204 d_Mo_tour_199 rfl ?_
                        refine g_istore_n (lv' := [(3, .int (iI (((n9 : Int)) + 1))), (0, .ref m), (1, .int (iI ((w : Int)))), (2, .int (iI z2_)), (4, .int (iI ((k : Int)))), (5, .int (iI ((i : Int))))]) C d_Mo_tour_204 (by decide) rfl ?_
                        refine g_iinc (lv' := [(4, .int (iI (((k : Int)) + 1))), (3, .int (iI (((n9 : Int)) + 1))), (0, .ref m), (1, .int (iI ((w : Int)))), (2, .int (iI z2_)), (5, .int (iI ((i : Int))))]) C d_Mo_tour_205 4 rfl (by decide) rfl ?_
                        refine g_goto C 47 d_Mo_tour_208 rfl ?_
                        have hMs2 : MA tys M35 m a (va_up f 24 (va_up g i ((k : Int)))) 0 (s 0 0 0) ((np : Int)) ((nl : Int)) ((nt : Int)) ((ns : Int)) (s 0 0 5) v7 v8 v9 := by have h_ := hM35; rw [bx_uu] at h_; exact h_
                        have hel : (el nl (s 2) (sHP s w) (s 4 w) z2_ (sPP s) (s 3)) k = true := by
                          rw [el_iff]
                          exact ⟨by omega, by omega, by rw [← hhH, ← hakP, ← hz29]; omega⟩
                        obtain ⟨E2, q1, q2, q3, q4⟩ := sel_ins (d := (fun k_ => sDue (s 3 k_))) (k := k) (n' := (n9 + 1)) (g' := (va_up g i ((k : Int)))) hElt hEs hn9 hi0 hi1 hi2 hi3 (by omega) (fun j_ hj_ => by
                            by_cases e_ : j_ = i
                            · subst e_; rw [iu_s, if_pos rfl]
                            · rw [iu_n e_, if_neg e_]) (by omega)
                        rw [show ((n9 : Int)) + 1 = ((n9 + 1 : Nat) : Int) by omega]
                        exact g_sub [2, 3, 4, 1, 0] rfl (ih47 (k + 1, E2, (n9 + 1), (va_up g i ((k : Int))), M35) ⟨(show k + 1 ≤ nt by omega), (by rw [fl_s.1 hel]; exact q1.trans ((hEp.cons k).trans (List.perm_append_singleton _ _).symm)), q2, q3, q4, hMs2⟩ (by first | omega | (dsimp only; omega)))
                  · have he1 := hElt (E_.getD (i - 1) 0) (gD_mem (show i - 1 < E_.length by omega))
                    refine g_aload_n C d_Mo_tour_127 0 rfl ?_
                    refine g_iload C d_Mo_tour_128 4 rfl ?_
                    refine g_aload_n C d_Mo_tour_130 0 rfl ?_
                    refine g_get C f_Mo_86 hMv.1 rfl d_Mo_tour_131 ?_
                    refine g_iload C d_Mo_tour_134 5 rfl ?_
                    refine g_iconst C d_Mo_tour_136 ?_
                    refine g_isub C d_Mo_tour_137 ?_
                    refine g_ialdN C 0 hT0 (show Mv (a 24) = some (aI tys 7 g) from hMv.2.1 24 (by decide)) (i - 1) (by omega) (by omega) d_Mo_tour_138 ?_
                    rw [hi1 (i - 1) (by omega)]
                    refine g_calliP C (run_V C [.int (iI ((k : Int))), .int (iI (((E_.getD (i - 1) 0 : Nat) : Int)))] k_Mo_137 (ct_Mo_isBefore l D tys A Mv hT9 m a (va_up f 24 g) 0 (s 0 0 0) ((np : Int)) ((nl : Int)) ((nt : Int)) ((ns : Int)) (s 0 0 5) v7 v8 v9 s np nl nt ns hS0 hr9 k (E_.getD (i - 1) 0) (by omega) (by omega) hMv) hMv.1 ⟨rfl, rfl, Nat.le_of_ble_eq_true rfl, Nat.le_of_ble_eq_true rfl⟩ rfl rfl (Nat.le_of_ble_eq_true rfl) d_Mo_tour_139 ⟨Nat.le_of_ble_eq_true rfl, Nat.le_of_ble_eq_true rfl⟩) (fun z37 hz37 => ?_)
                    refine g_if_eq C 174 d_Mo_tour_142 rfl (by omega) (fun c38 => ?_) (fun c38 => ?_)
                    · have hnb : sDue (s 3 (E_.getD (i - 1) 0)) ≤ sDue (s 3 k) := by
                        rcases hz37 with ⟨h1_, -⟩ | ⟨-, h1_⟩
                        · omega
                        · rw [bf_iff] at h1_; omega
                      refine g_iload C d_Mo_tour_174 5 rfl ?_
                      refine g_bipush C d_Mo_tour_176 (by decide) ?_
                      refine g_icmp_ge C 190 d_Mo_tour_178 rfl (by omega) (fun c39 => ?_) (fun c39 => ?_)
                      · refine g_iload_n C d_Mo_tour_190 3 rfl ?_
                        refine g_bipush C d_Mo_tour_191 (by decide) ?_
                        refine g_icmp_ge C 202 d_Mo_tour_193 rfl (by omega) (fun c40 => ?_) (fun c40 => ?_)
                        · refine g_bipush C d_Mo_tour_202 (by decide) ?_
                          refine g_istore_n (lv' := [(3, .int (iI 7)), (0, .ref m), (1, .int (iI ((w : Int)))), (2, .int (iI z2_)), (4, .int (iI ((k : Int)))), (5, .int (iI ((i : Int))))]) C d_Mo_tour_204 (by decide) rfl ?_
                          refine g_iinc (lv' := [(4, .int (iI (((k : Int)) + 1))), (3, .int (iI 7)), (0, .ref m), (1, .int (iI ((w : Int)))), (2, .int (iI z2_)), (5, .int (iI ((i : Int))))]) C d_Mo_tour_205 4 rfl (by decide) rfl ?_
                          refine g_goto C 47 d_Mo_tour_208 rfl ?_
                          have hMs2 := hMv
                          have hel : (el nl (s 2) (sHP s w) (s 4 w) z2_ (sPP s) (s 3)) k = true := by
                            rw [el_iff]
                            exact ⟨by omega, by omega, by rw [← hhH, ← hakP, ← hz29]; omega⟩
                          obtain ⟨E2, q1, q2, q3, q4⟩ := sel_ins (d := (fun k_ => sDue (s 3 k_))) (k := k) (n' := 7) (g' := (g)) hElt hEs hn9 hi0 hi1 hi2 hi3 (by omega) (fun j_ hj_ => (if_neg (show ¬ j_ = i by omega)).symm) (by omega)
                          
                          exact g_sub [2, 3, 4, 1, 0] rfl (ih47 (k + 1, E2, 7, (g), Mv) ⟨(show k + 1 ≤ nt by omega), (by rw [fl_s.1 hel]; exact q1.trans ((hEp.cons k).trans (List.perm_append_singleton _ _).symm)), q2, q3, q4, hMs2⟩ (by first | omega | (dsimp only; omega)))
                        · refine g_iload_n C d_Mo_tour_196 3 rfl ?_
                          refine g_iconst C d_Mo_tour_197 ?_
                          refine g_iadd C d_Mo_tour_198 ?_
                          refine g_goto C 204 d_Mo_tour_199 rfl ?_
                          refine g_istore_n (lv' := [(3, .int (iI (((n9 : Int)) + 1))), (0, .ref m), (1, .int (iI ((w : Int)))), (2, .int (iI z2_)), (4, .int (iI ((k : Int)))), (5, .int (iI ((i : Int))))]) C d_Mo_tour_204 (by decide) rfl ?_
                          refine g_iinc (lv' := [(4, .int (iI (((k : Int)) + 1))), (3, .int (iI (((n9 : Int)) + 1))), (0, .ref m), (1, .int (iI ((w : Int)))), (2, .int (iI z2_)), (5, .int (iI ((i : Int))))]) C d_Mo_tour_205 4 rfl (by decide) rfl ?_
                          refine g_goto C 47 d_Mo_tour_208 rfl ?_
                          have hMs2 := hMv
                          have hel : (el nl (s 2) (sHP s w) (s 4 w) z2_ (sPP s) (s 3)) k = true := by
                            rw [el_iff]
                            exact ⟨by omega, by omega, by rw [← hhH, ← hakP, ← hz29]; omega⟩
                          obtain ⟨E2, q1, q2, q3, q4⟩ := sel_ins (d := (fun k_ => sDue (s 3 k_))) (k := k) (n' := (n9 + 1)) (g' := (g)) hElt hEs hn9 hi0 hi1 hi2 hi3 (by omega) (fun j_ hj_ => (if_neg (show ¬ j_ = i by omega)).symm) (by omega)
                          rw [show ((n9 : Int)) + 1 = ((n9 + 1 : Nat) : Int) by omega]
                          exact g_sub [2, 3, 4, 1, 0] rfl (ih47 (k + 1, E2, (n9 + 1), (g), Mv) ⟨(show k + 1 ≤ nt by omega), (by rw [fl_s.1 hel]; exact q1.trans ((hEp.cons k).trans (List.perm_append_singleton _ _).symm)), q2, q3, q4, hMs2⟩ (by first | omega | (dsimp only; omega)))
                      · refine g_aload_n C d_Mo_tour_181 0 rfl ?_
                        refine g_get C f_Mo_86 hMv.1 rfl d_Mo_tour_182 ?_
                        refine g_iload C d_Mo_tour_185 5 rfl ?_
                        refine g_iload C d_Mo_tour_187 4 rfl ?_
                        refine g_iastN C 0 hT0 (show Mv (a 24) = some (aI tys 7 g) from hMv.2.1 24 (by decide)) i (by omega) (by omega) d_Mo_tour_189 ?_ rfl
                        refine g_abs (X := fun M_ => MA tys M_ m a (va_up (va_up f 24 g) 24 (va_up g i ((k : Int)))) 0 (s 0 0 0) ((np : Int)) ((nl : Int)) ((nt : Int)) ((ns : Int)) (s 0 0 5) v7 v8 v9) (MA_F hMv 24 (by decide) (va_up g i ((k : Int))) rfl) (fun M41 hM41 => ?_)
                        refine g_iload_n C d_Mo_tour_190 3 rfl ?_
                        refine g_bipush C d_Mo_tour_191 (by decide) ?_
                        refine g_icmp_ge C 202 d_Mo_tour_193 rfl (by omega) (fun c42 => ?_) (fun c42 => ?_)
                        · refine g_bipush C d_Mo_tour_202 (by decide) ?_
                          refine g_istore_n (lv' := [(3, .int (iI 7)), (0, .ref m), (1, .int (iI ((w : Int)))), (2, .int (iI z2_)), (4, .int (iI ((k : Int)))), (5, .int (iI ((i : Int))))]) C d_Mo_tour_204 (by decide) rfl ?_
                          refine g_iinc (lv' := [(4, .int (iI (((k : Int)) + 1))), (3, .int (iI 7)), (0, .ref m), (1, .int (iI ((w : Int)))), (2, .int (iI z2_)), (5, .int (iI ((i : Int))))]) C d_Mo_tour_205 4 rfl (by decide) rfl ?_
                          refine g_goto C 47 d_Mo_tour_208 rfl ?_
                          have hMs2 : MA tys M41 m a (va_up f 24 (va_up g i ((k : Int)))) 0 (s 0 0 0) ((np : Int)) ((nl : Int)) ((nt : Int)) ((ns : Int)) (s 0 0 5) v7 v8 v9 := by have h_ := hM41; rw [bx_uu] at h_; exact h_
                          have hel : (el nl (s 2) (sHP s w) (s 4 w) z2_ (sPP s) (s 3)) k = true := by
                            rw [el_iff]
                            exact ⟨by omega, by omega, by rw [← hhH, ← hakP, ← hz29]; omega⟩
                          obtain ⟨E2, q1, q2, q3, q4⟩ := sel_ins (d := (fun k_ => sDue (s 3 k_))) (k := k) (n' := 7) (g' := (va_up g i ((k : Int)))) hElt hEs hn9 hi0 hi1 hi2 hi3 (by omega) (fun j_ hj_ => by
                              by_cases e_ : j_ = i
                              · subst e_; rw [iu_s, if_pos rfl]
                              · rw [iu_n e_, if_neg e_]) (by omega)
                          
                          exact g_sub [2, 3, 4, 1, 0] rfl (ih47 (k + 1, E2, 7, (va_up g i ((k : Int))), M41) ⟨(show k + 1 ≤ nt by omega), (by rw [fl_s.1 hel]; exact q1.trans ((hEp.cons k).trans (List.perm_append_singleton _ _).symm)), q2, q3, q4, hMs2⟩ (by first | omega | (dsimp only; omega)))
                        · refine g_iload_n C d_Mo_tour_196 3 rfl ?_
                          refine g_iconst C d_Mo_tour_197 ?_
                          refine g_iadd C d_Mo_tour_198 ?_
                          refine g_goto C 204 d_Mo_tour_199 rfl ?_
                          refine g_istore_n (lv' := [(3, .int (iI (((n9 : Int)) + 1))), (0, .ref m), (1, .int (iI ((w : Int)))), (2, .int (iI z2_)), (4, .int (iI ((k : Int)))), (5, .int (iI ((i : Int))))]) C d_Mo_tour_204 (by decide) rfl ?_
                          refine g_iinc (lv' := [(4, .int (iI (((k : Int)) + 1))), (3, .int (iI (((n9 : Int)) + 1))), (0, .ref m), (1, .int (iI ((w : Int)))), (2, .int (iI z2_)), (5, .int (iI ((i : Int))))]) C d_Mo_tour_205 4 rfl (by decide) rfl ?_
                          refine g_goto C 47 d_Mo_tour_208 rfl ?_
                          have hMs2 : MA tys M41 m a (va_up f 24 (va_up g i ((k : Int)))) 0 (s 0 0 0) ((np : Int)) ((nl : Int)) ((nt : Int)) ((ns : Int)) (s 0 0 5) v7 v8 v9 := by have h_ := hM41; rw [bx_uu] at h_; exact h_
                          have hel : (el nl (s 2) (sHP s w) (s 4 w) z2_ (sPP s) (s 3)) k = true := by
                            rw [el_iff]
                            exact ⟨by omega, by omega, by rw [← hhH, ← hakP, ← hz29]; omega⟩
                          obtain ⟨E2, q1, q2, q3, q4⟩ := sel_ins (d := (fun k_ => sDue (s 3 k_))) (k := k) (n' := (n9 + 1)) (g' := (va_up g i ((k : Int)))) hElt hEs hn9 hi0 hi1 hi2 hi3 (by omega) (fun j_ hj_ => by
                              by_cases e_ : j_ = i
                              · subst e_; rw [iu_s, if_pos rfl]
                              · rw [iu_n e_, if_neg e_]) (by omega)
                          rw [show ((n9 : Int)) + 1 = ((n9 + 1 : Nat) : Int) by omega]
                          exact g_sub [2, 3, 4, 1, 0] rfl (ih47 (k + 1, E2, (n9 + 1), (va_up g i ((k : Int))), M41) ⟨(show k + 1 ≤ nt by omega), (by rw [fl_s.1 hel]; exact q1.trans ((hEp.cons k).trans (List.perm_append_singleton _ _).symm)), q2, q3, q4, hMs2⟩ (by first | omega | (dsimp only; omega)))
                    · have hbe : sDue (s 3 k) < sDue (s 3 (E_.getD (i - 1) 0)) := by
                        rcases hz37 with ⟨-, h1_⟩ | ⟨h1_, -⟩
                        · rw [bf_iff] at h1_; omega
                        · omega
                      refine g_iload C d_Mo_tour_145 5 rfl ?_
                      refine g_bipush C d_Mo_tour_147 (by decide) ?_
                      refine g_icmp_ge C 168 d_Mo_tour_149 rfl (by omega) (fun c43 => ?_) (fun c43 => ?_)
                      · refine g_iinc (lv' := [(5, .int (iI (((i : Int)) + (-1)))), (0, .ref m), (1, .int (iI ((w : Int)))), (2, .int (iI z2_)), (3, .int (iI ((n9 : Int)))), (4, .int (iI ((k : Int))))]) C d_Mo_tour_168 5 rfl (by decide) rfl ?_
                        refine g_goto C 122 d_Mo_tour_171 rfl ?_
                        have hMs2 := hMv
                        have q1 : ∀ j_, j_ < i - 1 → (g) j_ = ((E_.getD j_ 0 : Nat) : Int) := fun j_ hj_ => hi1 j_ (by omega)
                        have q2 : ∀ j_, i - 1 < j_ → j_ ≤ n9 → j_ < 7 → (g) j_ = ((E_.getD (j_ - 1) 0 : Nat) : Int) := by
                          intro j_ h1_ h2_ h3_
                          exact hi2 j_ (by omega) h2_ h3_
                        have q3 : ∀ j_, i - 1 ≤ j_ → j_ < n9 → sDue (s 3 k) < sDue (s 3 (E_.getD j_ 0)) := by
                          intro j_ h1_ h2_
                          by_cases e_ : j_ = i - 1
                          · subst e_; exact hbe
                          · exact hi3 j_ (by omega) h2_
                        rw [show ((i : Int)) + (-1) = ((i - 1 : Nat) : Int) by omega]
                        exact g_sub [1, 2, 3, 4, 5, 0] rfl (ih122 (i - 1, (g), Mv) ⟨(show i - 1 ≤ n9 by omega), q1, q2, q3, hMs2⟩ (by first | omega | (dsimp only; omega)))
                      · refine g_aload_n C d_Mo_tour_152 0 rfl ?_
                        refine g_get C f_Mo_86 hMv.1 rfl d_Mo_tour_153 ?_
                        refine g_iload C d_Mo_tour_156 5 rfl ?_
                        refine g_aload_n C d_Mo_tour_158 0 rfl ?_
                        refine g_get C f_Mo_86 hMv.1 rfl d_Mo_tour_159 ?_
                        refine g_iload C d_Mo_tour_162 5 rfl ?_
                        refine g_iconst C d_Mo_tour_164 ?_
                        refine g_isub C d_Mo_tour_165 ?_
                        refine g_ialdN C 0 hT0 (show Mv (a 24) = some (aI tys 7 g) from hMv.2.1 24 (by decide)) (i - 1) (by omega) (by omega) d_Mo_tour_166 ?_
                        rw [hi1 (i - 1) (by omega)]
                        refine g_iastN C 0 hT0 (show Mv (a 24) = some (aI tys 7 g) from hMv.2.1 24 (by decide)) i (by omega) (by omega) d_Mo_tour_167 ?_ rfl
                        refine g_abs (X := fun M_ => MA tys M_ m a (va_up (va_up f 24 g) 24 (va_up g i (((E_.getD (i - 1) 0 : Nat) : Int)))) 0 (s 0 0 0) ((np : Int)) ((nl : Int)) ((nt : Int)) ((ns : Int)) (s 0 0 5) v7 v8 v9) (MA_F hMv 24 (by decide) (va_up g i (((E_.getD (i - 1) 0 : Nat) : Int))) rfl) (fun M44 hM44 => ?_)
                        refine g_iinc (lv' := [(5, .int (iI (((i : Int)) + (-1)))), (0, .ref m), (1, .int (iI ((w : Int)))), (2, .int (iI z2_)), (3, .int (iI ((n9 : Int)))), (4, .int (iI ((k : Int))))]) C d_Mo_tour_168 5 rfl (by decide) rfl ?_
                        refine g_goto C 122 d_Mo_tour_171 rfl ?_
                        have hMs2 : MA tys M44 m a (va_up f 24 (va_up g i (((E_.getD (i - 1) 0 : Nat) : Int)))) 0 (s 0 0 0) ((np : Int)) ((nl : Int)) ((nt : Int)) ((ns : Int)) (s 0 0 5) v7 v8 v9 := by have h_ := hM44; rw [bx_uu] at h_; exact h_
                        have q1 : ∀ j_, j_ < i - 1 → (va_up g i (((E_.getD (i - 1) 0 : Nat) : Int))) j_ = ((E_.getD j_ 0 : Nat) : Int) := fun j_ hj_ => by rw [iu_n (by omega)]; exact hi1 j_ (by omega)
                        have q2 : ∀ j_, i - 1 < j_ → j_ ≤ n9 → j_ < 7 → (va_up g i (((E_.getD (i - 1) 0 : Nat) : Int))) j_ = ((E_.getD (j_ - 1) 0 : Nat) : Int) := by
                          intro j_ h1_ h2_ h3_
                          by_cases e_ : j_ = i
                          · subst e_; rw [iu_s]
                          · rw [iu_n e_]; exact hi2 j_ (by omega) h2_ h3_
                        have q3 : ∀ j_, i - 1 ≤ j_ → j_ < n9 → sDue (s 3 k) < sDue (s 3 (E_.getD j_ 0)) := by
                          intro j_ h1_ h2_
                          by_cases e_ : j_ = i - 1
                          · subst e_; exact hbe
                          · exact hi3 j_ (by omega) h2_
                        rw [show ((i : Int)) + (-1) = ((i - 1 : Nat) : Int) by omega]
                        exact g_sub [1, 2, 3, 4, 5, 0] rfl (ih122 (i - 1, (va_up g i (((E_.getD (i - 1) 0 : Nat) : Int))), M44) ⟨(show i - 1 ≤ n9 by omega), q1, q2, q3, hMs2⟩ (by first | omega | (dsimp only; omega)))
                · refine g_iload_n C d_Mo_tour_114 3 rfl ?_
                  refine g_goto C 120 d_Mo_tour_115 rfl ?_
                  refine g_istore (lv' := [(5, .int (iI ((n9 : Int)))), (0, .ref m), (1, .int (iI ((w : Int)))), (2, .int (iI z2_)), (3, .int (iI ((n9 : Int)))), (4, .int (iI ((k : Int))))]) C d_Mo_tour_120 (by decide) rfl ?_
                  refine g_sub [1, 2, 3, 4, 5, 0] rfl (g_loop (σ := Nat × (Nat → Int) × Wm) (fun q_ => q_.1) (fun q_ => (q_.1 ≤ n9) ∧ (∀ j_, j_ < q_.1 → q_.2.1 j_ = ((E_.getD j_ 0 : Nat) : Int)) ∧ (∀ j_, q_.1 < j_ → j_ ≤ n9 → j_ < 7 → q_.2.1 j_ = ((E_.getD (j_ - 1) 0 : Nat) : Int)) ∧ (∀ j_, q_.1 ≤ j_ → j_ < n9 → sDue (s 3 k) < sDue (s 3 (E_.getD j_ 0))) ∧ (MA tys q_.2.2 m a (va_up f 24 q_.2.1) 0 (s 0 0 0) ((np : Int)) ((nl : Int)) ((nt : Int)) ((ns : Int)) (s 0 0 5) v7 v8 v9)) (fun q_ => [(0, .ref m), (1, .int (iI ((w : Int)))), (2, .int (iI z2_)), (3, .int (iI ((n9 : Int)))), (4, .int (iI ((k : Int)))), (5, .int (iI ((q_.1 : Int))))]) (fun q_ => q_.2.2) ?_ (n9, g4, Mw) (⟨Nat.le_refl _, hg4, (fun j_ h1_ h2_ => by omega), (fun j_ h1_ h2_ => by omega), hMw⟩))
                  intro x_ hI ih122
                  obtain ⟨i, g, Mv⟩ := x_
                  try dsimp only at hI ih122 ⊢
                  obtain ⟨hi0, hi1, hi2, hi3, hMv⟩ := hI
                  refine g_iload C d_Mo_tour_122 5 rfl ?_
                  refine g_if_le C 174 d_Mo_tour_124 rfl (by omega) (fun c45 => ?_) (fun c45 => ?_)
                  · refine g_iload C d_Mo_tour_174 5 rfl ?_
                    refine g_bipush C d_Mo_tour_176 (by decide) ?_
                    refine g_icmp_ge C 190 d_Mo_tour_178 rfl (by omega) (fun c46 => ?_) (fun c46 => ?_)
                    · refine g_iload_n C d_Mo_tour_190 3 rfl ?_
                      refine g_bipush C d_Mo_tour_191 (by decide) ?_
                      refine g_icmp_ge C 202 d_Mo_tour_193 rfl (by omega) (fun c47 => ?_) (fun c47 => ?_)
                      · refine g_bipush C d_Mo_tour_202 (by decide) ?_
                        refine g_istore_n (lv' := [(3, .int (iI 7)), (0, .ref m), (1, .int (iI ((w : Int)))), (2, .int (iI z2_)), (4, .int (iI ((k : Int)))), (5, .int (iI ((i : Int))))]) C d_Mo_tour_204 (by decide) rfl ?_
                        refine g_iinc (lv' := [(4, .int (iI (((k : Int)) + 1))), (3, .int (iI 7)), (0, .ref m), (1, .int (iI ((w : Int)))), (2, .int (iI z2_)), (5, .int (iI ((i : Int))))]) C d_Mo_tour_205 4 rfl (by decide) rfl ?_
                        refine g_goto C 47 d_Mo_tour_208 rfl ?_
                        have hMs2 := hMv
                        have hel : (el nl (s 2) (sHP s w) (s 4 w) z2_ (sPP s) (s 3)) k = true := by
                          rw [el_iff]
                          exact ⟨by omega, by omega, by rw [← hhH, ← hakP, ← hz29]; omega⟩
                        obtain ⟨E2, q1, q2, q3, q4⟩ := sel_ins (d := (fun k_ => sDue (s 3 k_))) (k := k) (n' := 7) (g' := (g)) hElt hEs hn9 hi0 hi1 hi2 hi3 (by omega) (fun j_ hj_ => (if_neg (show ¬ j_ = i by omega)).symm) (by omega)
                        
                        exact g_sub [2, 3, 4, 1, 0] rfl (ih47 (k + 1, E2, 7, (g), Mv) ⟨(show k + 1 ≤ nt by omega), (by rw [fl_s.1 hel]; exact q1.trans ((hEp.cons k).trans (List.perm_append_singleton _ _).symm)), q2, q3, q4, hMs2⟩ (by first | omega | (dsimp only; omega)))
                      · refine g_iload_n C d_Mo_tour_196 3 rfl ?_
                        refine g_iconst C d_Mo_tour_197 ?_
                        refine g_iadd C d_Mo_tour_198 ?_
                        refine g_goto C 204 d_Mo_tour_199 rfl ?_
                        refine g_istore_n (lv' := [(3, .int (iI (((n9 : Int)) + 1))), (0, .ref m), (1, .int (iI ((w : Int)))), (2, .int (iI z2_)), (4, .int (iI ((k : Int)))), (5, .int (iI ((i : Int))))]) C d_Mo_tour_204 (by decide) rfl ?_
                        refine g_iinc (lv' := [(4, .int (iI (((k : Int)) + 1))), (3, .int (iI (((n9 : Int)) + 1))), (0, .ref m), (1, .int (iI ((w : Int)))), (2, .int (iI z2_)), (5, .int (iI ((i : Int))))]) C d_Mo_tour_205 4 rfl (by decide) rfl ?_
                        refine g_goto C 47 d_Mo_tour_208 rfl ?_
                        have hMs2 := hMv
                        have hel : (el nl (s 2) (sHP s w) (s 4 w) z2_ (sPP s) (s 3)) k = true := by
                          rw [el_iff]
                          exact ⟨by omega, by omega, by rw [← hhH, ← hakP, ← hz29]; omega⟩
                        obtain ⟨E2, q1, q2, q3, q4⟩ := sel_ins (d := (fun k_ => sDue (s 3 k_))) (k := k) (n' := (n9 + 1)) (g' := (g)) hElt hEs hn9 hi0 hi1 hi2 hi3 (by omega) (fun j_ hj_ => (if_neg (show ¬ j_ = i by omega)).symm) (by omega)
                        rw [show ((n9 : Int)) + 1 = ((n9 + 1 : Nat) : Int) by omega]
                        exact g_sub [2, 3, 4, 1, 0] rfl (ih47 (k + 1, E2, (n9 + 1), (g), Mv) ⟨(show k + 1 ≤ nt by omega), (by rw [fl_s.1 hel]; exact q1.trans ((hEp.cons k).trans (List.perm_append_singleton _ _).symm)), q2, q3, q4, hMs2⟩ (by first | omega | (dsimp only; omega)))
                    · refine g_aload_n C d_Mo_tour_181 0 rfl ?_
                      refine g_get C f_Mo_86 hMv.1 rfl d_Mo_tour_182 ?_
                      refine g_iload C d_Mo_tour_185 5 rfl ?_
                      refine g_iload C d_Mo_tour_187 4 rfl ?_
                      refine g_iastN C 0 hT0 (show Mv (a 24) = some (aI tys 7 g) from hMv.2.1 24 (by decide)) i (by omega) (by omega) d_Mo_tour_189 ?_ rfl
                      refine g_abs (X := fun M_ => MA tys M_ m a (va_up (va_up f 24 g) 24 (va_up g i ((k : Int)))) 0 (s 0 0 0) ((np : Int)) ((nl : Int)) ((nt : Int)) ((ns : Int)) (s 0 0 5) v7 v8 v9) (MA_F hMv 24 (by decide) (va_up g i ((k : Int))) rfl) (fun M48 hM48 => ?_)
                      refine g_iload_n C d_Mo_tour_190 3 rfl ?_
                      refine g_bipush C d_Mo_tour_191 (by decide) ?_
                      refine g_icmp_ge C 202 d_Mo_tour_193 rfl (by omega) (fun c49 => ?_) (fun c49 => ?_)
                      · refine g_bipush C d_Mo_tour_202 (by decide) ?_
                        refine g_istore_n (lv' := [(3, .int (iI 7)), (0, .ref m), (1, .int (iI ((w : Int)))), (2, .int (iI z2_)), (4, .int (iI ((k : Int)))), (5, .int (iI ((i : Int))))]) C d_Mo_tour_204 (by decide) rfl ?_
                        refine g_iinc (lv' := [(4, .int (iI (((k : Int)) + 1))), (3, .int (iI 7)), (0, .ref m), (1, .int (iI ((w : Int)))), (2, .int (iI z2_)), (5, .int (iI ((i : Int))))]) C d_Mo_tour_205 4 rfl (by decide) rfl ?_
                        refine g_goto C 47 d_Mo_tour_208 rfl ?_
                        have hMs2 : MA tys M48 m a (va_up f 24 (va_up g i ((k : Int)))) 0 (s 0 0 0) ((np : Int)) ((nl : Int)) ((nt : Int)) ((ns : Int)) (s 0 0 5) v7 v8 v9 := by have h_ := hM48; rw [bx_uu] at h_; exact h_
                        have hel : (el nl (s 2) (sHP s w) (s 4 w) z2_ (sPP s) (s 3)) k = true := by
                          rw [el_iff]
                          exact ⟨by omega, by omega, by rw [← hhH, ← hakP, ← hz29]; omega⟩
                        obtain ⟨E2, q1, q2, q3, q4⟩ := sel_ins (d := (fun k_ => sDue (s 3 k_))) (k := k) (n' := 7) (g' := (va_up g i ((k : Int)))) hElt hEs hn9 hi0 hi1 hi2 hi3 (by omega) (fun j_ hj_ => by
                            by_cases e_ : j_ = i
                            · subst e_; rw [iu_s, if_pos rfl]
                            · rw [iu_n e_, if_neg e_]) (by omega)
                        
                        exact g_sub [2, 3, 4, 1, 0] rfl (ih47 (k + 1, E2, 7, (va_up g i ((k : Int))), M48) ⟨(show k + 1 ≤ nt by omega), (by rw [fl_s.1 hel]; exact q1.trans ((hEp.cons k).trans (List.perm_append_singleton _ _).symm)), q2, q3, q4, hMs2⟩ (by first | omega | (dsimp only; omega)))
                      · refine g_iload_n C d_Mo_tour_196 3 rfl ?_
                        refine g_iconst C d_Mo_tour_197 ?_
                        refine g_iadd C d_Mo_tour_198 ?_
                        refine g_goto C 204 d_Mo_tour_199 rfl ?_
                        refine g_istore_n (lv' := [(3, .int (iI (((n9 : Int)) + 1))), (0, .ref m), (1, .int (iI ((w : Int)))), (2, .int (iI z2_)), (4, .int (iI ((k : Int)))), (5, .int (iI ((i : Int))))]) C d_Mo_tour_204 (by decide) rfl ?_
                        refine g_iinc (lv' := [(4, .int (iI (((k : Int)) + 1))), (3, .int (iI (((n9 : Int)) + 1))), (0, .ref m), (1, .int (iI ((w : Int)))), (2, .int (iI z2_)), (5, .int (iI ((i : Int))))]) C d_Mo_tour_205 4 rfl (by decide) rfl ?_
                        refine g_goto C 47 d_Mo_tour_208 rfl ?_
                        have hMs2 : MA tys M48 m a (va_up f 24 (va_up g i ((k : Int)))) 0 (s 0 0 0) ((np : Int)) ((nl : Int)) ((nt : Int)) ((ns : Int)) (s 0 0 5) v7 v8 v9 := by have h_ := hM48; rw [bx_uu] at h_; exact h_
                        have hel : (el nl (s 2) (sHP s w) (s 4 w) z2_ (sPP s) (s 3)) k = true := by
                          rw [el_iff]
                          exact ⟨by omega, by omega, by rw [← hhH, ← hakP, ← hz29]; omega⟩
                        obtain ⟨E2, q1, q2, q3, q4⟩ := sel_ins (d := (fun k_ => sDue (s 3 k_))) (k := k) (n' := (n9 + 1)) (g' := (va_up g i ((k : Int)))) hElt hEs hn9 hi0 hi1 hi2 hi3 (by omega) (fun j_ hj_ => by
                            by_cases e_ : j_ = i
                            · subst e_; rw [iu_s, if_pos rfl]
                            · rw [iu_n e_, if_neg e_]) (by omega)
                        rw [show ((n9 : Int)) + 1 = ((n9 + 1 : Nat) : Int) by omega]
                        exact g_sub [2, 3, 4, 1, 0] rfl (ih47 (k + 1, E2, (n9 + 1), (va_up g i ((k : Int))), M48) ⟨(show k + 1 ≤ nt by omega), (by rw [fl_s.1 hel]; exact q1.trans ((hEp.cons k).trans (List.perm_append_singleton _ _).symm)), q2, q3, q4, hMs2⟩ (by first | omega | (dsimp only; omega)))
                  · have he1 := hElt (E_.getD (i - 1) 0) (gD_mem (show i - 1 < E_.length by omega))
                    refine g_aload_n C d_Mo_tour_127 0 rfl ?_
                    refine g_iload C d_Mo_tour_128 4 rfl ?_
                    refine g_aload_n C d_Mo_tour_130 0 rfl ?_
                    refine g_get C f_Mo_86 hMv.1 rfl d_Mo_tour_131 ?_
                    refine g_iload C d_Mo_tour_134 5 rfl ?_
                    refine g_iconst C d_Mo_tour_136 ?_
                    refine g_isub C d_Mo_tour_137 ?_
                    refine g_ialdN C 0 hT0 (show Mv (a 24) = some (aI tys 7 g) from hMv.2.1 24 (by decide)) (i - 1) (by omega) (by omega) d_Mo_tour_138 ?_
                    rw [hi1 (i - 1) (by omega)]
                    refine g_calliP C (run_V C [.int (iI ((k : Int))), .int (iI (((E_.getD (i - 1) 0 : Nat) : Int)))] k_Mo_137 (ct_Mo_isBefore l D tys A Mv hT9 m a (va_up f 24 g) 0 (s 0 0 0) ((np : Int)) ((nl : Int)) ((nt : Int)) ((ns : Int)) (s 0 0 5) v7 v8 v9 s np nl nt ns hS0 hr9 k (E_.getD (i - 1) 0) (by omega) (by omega) hMv) hMv.1 ⟨rfl, rfl, Nat.le_of_ble_eq_true rfl, Nat.le_of_ble_eq_true rfl⟩ rfl rfl (Nat.le_of_ble_eq_true rfl) d_Mo_tour_139 ⟨Nat.le_of_ble_eq_true rfl, Nat.le_of_ble_eq_true rfl⟩) (fun z50 hz50 => ?_)
                    refine g_if_eq C 174 d_Mo_tour_142 rfl (by omega) (fun c51 => ?_) (fun c51 => ?_)
                    · have hnb : sDue (s 3 (E_.getD (i - 1) 0)) ≤ sDue (s 3 k) := by
                        rcases hz50 with ⟨h1_, -⟩ | ⟨-, h1_⟩
                        · omega
                        · rw [bf_iff] at h1_; omega
                      refine g_iload C d_Mo_tour_174 5 rfl ?_
                      refine g_bipush C d_Mo_tour_176 (by decide) ?_
                      refine g_icmp_ge C 190 d_Mo_tour_178 rfl (by omega) (fun c52 => ?_) (fun c52 => ?_)
                      · refine g_iload_n C d_Mo_tour_190 3 rfl ?_
                        refine g_bipush C d_Mo_tour_191 (by decide) ?_
                        refine g_icmp_ge C 202 d_Mo_tour_193 rfl (by omega) (fun c53 => ?_) (fun c53 => ?_)
                        · refine g_bipush C d_Mo_tour_202 (by decide) ?_
                          refine g_istore_n (lv' := [(3, .int (iI 7)), (0, .ref m), (1, .int (iI ((w : Int)))), (2, .int (iI z2_)), (4, .int (iI ((k : Int)))), (5, .int (iI ((i : Int))))]) C d_Mo_tour_204 (by decide) rfl ?_
                          refine g_iinc (lv' := [(4, .int (iI (((k : Int)) + 1))), (3, .int (iI 7)), (0, .ref m), (1, .int (iI ((w : Int)))), (2, .int (iI z2_)), (5, .int (iI ((i : Int))))]) C d_Mo_tour_205 4 rfl (by decide) rfl ?_
                          refine g_goto C 47 d_Mo_tour_208 rfl ?_
                          have hMs2 := hMv
                          have hel : (el nl (s 2) (sHP s w) (s 4 w) z2_ (sPP s) (s 3)) k = true := by
                            rw [el_iff]
                            exact ⟨by omega, by omega, by rw [← hhH, ← hakP, ← hz29]; omega⟩
                          obtain ⟨E2, q1, q2, q3, q4⟩ := sel_ins (d := (fun k_ => sDue (s 3 k_))) (k := k) (n' := 7) (g' := (g)) hElt hEs hn9 hi0 hi1 hi2 hi3 (by omega) (fun j_ hj_ => (if_neg (show ¬ j_ = i by omega)).symm) (by omega)
                          
                          exact g_sub [2, 3, 4, 1, 0] rfl (ih47 (k + 1, E2, 7, (g), Mv) ⟨(show k + 1 ≤ nt by omega), (by rw [fl_s.1 hel]; exact q1.trans ((hEp.cons k).trans (List.perm_append_singleton _ _).symm)), q2, q3, q4, hMs2⟩ (by first | omega | (dsimp only; omega)))
                        · refine g_iload_n C d_Mo_tour_196 3 rfl ?_
                          refine g_iconst C d_Mo_tour_197 ?_
                          refine g_iadd C d_Mo_tour_198 ?_
                          refine g_goto C 204 d_Mo_tour_199 rfl ?_
                          refine g_istore_n (lv' := [(3, .int (iI (((n9 : Int)) + 1))), (0, .ref m), (1, .int (iI ((w : Int)))), (2, .int (iI z2_)), (4, .int (iI ((k : Int)))), (5, .int (iI ((i : Int))))]) C d_Mo_tour_204 (by decide) rfl ?_
                          refine g_iinc (lv' := [(4, .int (iI (((k : Int)) + 1))), (3, .int (iI (((n9 : Int)) + 1))), (0, .ref m), (1, .int (iI ((w : Int)))), (2, .int (iI z2_)), (5, .int (iI ((i : Int))))]) C d_Mo_tour_205 4 rfl (by decide) rfl ?_
                          refine g_goto C 47 d_Mo_tour_208 rfl ?_
                          have hMs2 := hMv
                          have hel : (el nl (s 2) (sHP s w) (s 4 w) z2_ (sPP s) (s 3)) k = true := by
                            rw [el_iff]
                            exact ⟨by omega, by omega, by rw [← hhH, ← hakP, ← hz29]; omega⟩
                          obtain ⟨E2, q1, q2, q3, q4⟩ := sel_ins (d := (fun k_ => sDue (s 3 k_))) (k := k) (n' := (n9 + 1)) (g' := (g)) hElt hEs hn9 hi0 hi1 hi2 hi3 (by omega) (fun j_ hj_ => (if_neg (show ¬ j_ = i by omega)).symm) (by omega)
                          rw [show ((n9 : Int)) + 1 = ((n9 + 1 : Nat) : Int) by omega]
                          exact g_sub [2, 3, 4, 1, 0] rfl (ih47 (k + 1, E2, (n9 + 1), (g), Mv) ⟨(show k + 1 ≤ nt by omega), (by rw [fl_s.1 hel]; exact q1.trans ((hEp.cons k).trans (List.perm_append_singleton _ _).symm)), q2, q3, q4, hMs2⟩ (by first | omega | (dsimp only; omega)))
                      · refine g_aload_n C d_Mo_tour_181 0 rfl ?_
                        refine g_get C f_Mo_86 hMv.1 rfl d_Mo_tour_182 ?_
                        refine g_iload C d_Mo_tour_185 5 rfl ?_
                        refine g_iload C d_Mo_tour_187 4 rfl ?_
                        refine g_iastN C 0 hT0 (show Mv (a 24) = some (aI tys 7 g) from hMv.2.1 24 (by decide)) i (by omega) (by omega) d_Mo_tour_189 ?_ rfl
                        refine g_abs (X := fun M_ => MA tys M_ m a (va_up (va_up f 24 g) 24 (va_up g i ((k : Int)))) 0 (s 0 0 0) ((np : Int)) ((nl : Int)) ((nt : Int)) ((ns : Int)) (s 0 0 5) v7 v8 v9) (MA_F hMv 24 (by decide) (va_up g i ((k : Int))) rfl) (fun M54 hM54 => ?_)
                        refine g_iload_n C d_Mo_tour_190 3 rfl ?_
                        refine g_bipush C d_Mo_tour_191 (by decide) ?_
                        refine g_icmp_ge C 202 d_Mo_tour_193 rfl (by omega) (fun c55 => ?_) (fun c55 => ?_)
                        · refine g_bipush C d_Mo_tour_202 (by decide) ?_
                          refine g_istore_n (lv' := [(3, .int (iI 7)), (0, .ref m), (1, .int (iI ((w : Int)))), (2, .int (iI z2_)), (4, .int (iI ((k : Int)))), (5, .int (iI ((i : Int))))]) C d_Mo_tour_204 (by decide) rfl ?_
                          refine g_iinc (lv' := [(4, .int (iI (((k : Int)) + 1))), (3, .int (iI 7)), (0, .ref m), (1, .int (iI ((w : Int)))), (2, .int (iI z2_)), (5, .int (iI ((i : Int))))]) C d_Mo_tour_205 4 rfl (by decide) rfl ?_
                          refine g_goto C 47 d_Mo_tour_208 rfl ?_
                          have hMs2 : MA tys M54 m a (va_up f 24 (va_up g i ((k : Int)))) 0 (s 0 0 0) ((np : Int)) ((nl : Int)) ((nt : Int)) ((ns : Int)) (s 0 0 5) v7 v8 v9 := by have h_ := hM54; rw [bx_uu] at h_; exact h_
                          have hel : (el nl (s 2) (sHP s w) (s 4 w) z2_ (sPP s) (s 3)) k = true := by
                            rw [el_iff]
                            exact ⟨by omega, by omega, by rw [← hhH, ← hakP, ← hz29]; omega⟩
                          obtain ⟨E2, q1, q2, q3, q4⟩ := sel_ins (d := (fun k_ => sDue (s 3 k_))) (k := k) (n' := 7) (g' := (va_up g i ((k : Int)))) hElt hEs hn9 hi0 hi1 hi2 hi3 (by omega) (fun j_ hj_ => by
                              by_cases e_ : j_ = i
                              · subst e_; rw [iu_s, if_pos rfl]
                              · rw [iu_n e_, if_neg e_]) (by omega)
                          
                          exact g_sub [2, 3, 4, 1, 0] rfl (ih47 (k + 1, E2, 7, (va_up g i ((k : Int))), M54) ⟨(show k + 1 ≤ nt by omega), (by rw [fl_s.1 hel]; exact q1.trans ((hEp.cons k).trans (List.perm_append_singleton _ _).symm)), q2, q3, q4, hMs2⟩ (by first | omega | (dsimp only; omega)))
                        · refine g_iload_n C d_Mo_tour_196 3 rfl ?_
                          refine g_iconst C d_Mo_tour_197 ?_
                          refine g_iadd C d_Mo_tour_198 ?_
                          refine g_goto C 204 d_Mo_tour_199 rfl ?_
                          refine g_istore_n (lv' := [(3, .int (iI (((n9 : Int)) + 1))), (0, .ref m), (1, .int (iI ((w : Int)))), (2, .int (iI z2_)), (4, .int (iI ((k : Int)))), (5, .int (iI ((i : Int))))]) C d_Mo_tour_204 (by decide) rfl ?_
                          refine g_iinc (lv' := [(4, .int (iI (((k : Int)) + 1))), (3, .int (iI (((n9 : Int)) + 1))), (0, .ref m), (1, .int (iI ((w : Int)))), (2, .int (iI z2_)), (5, .int (iI ((i : Int))))]) C d_Mo_tour_205 4 rfl (by decide) rfl ?_
                          refine g_goto C 47 d_Mo_tour_208 rfl ?_
                          have hMs2 : MA tys M54 m a (va_up f 24 (va_up g i ((k : Int)))) 0 (s 0 0 0) ((np : Int)) ((nl : Int)) ((nt : Int)) ((ns : Int)) (s 0 0 5) v7 v8 v9 := by have h_ := hM54; rw [bx_uu] at h_; exact h_
                          have hel : (el nl (s 2) (sHP s w) (s 4 w) z2_ (sPP s) (s 3)) k = true := by
                            rw [el_iff]
                            exact ⟨by omega, by omega, by rw [← hhH, ← hakP, ← hz29]; omega⟩
                          obtain ⟨E2, q1, q2, q3, q4⟩ := sel_ins (d := (fun k_ => sDue (s 3 k_))) (k := k) (n' := (n9 + 1)) (g' := (va_up g i ((k : Int)))) hElt hEs hn9 hi0 hi1 hi2 hi3 (by omega) (fun j_ hj_ => by
                              by_cases e_ : j_ = i
                              · subst e_; rw [iu_s, if_pos rfl]
                              · rw [iu_n e_, if_neg e_]) (by omega)
                          rw [show ((n9 : Int)) + 1 = ((n9 + 1 : Nat) : Int) by omega]
                          exact g_sub [2, 3, 4, 1, 0] rfl (ih47 (k + 1, E2, (n9 + 1), (va_up g i ((k : Int))), M54) ⟨(show k + 1 ≤ nt by omega), (by rw [fl_s.1 hel]; exact q1.trans ((hEp.cons k).trans (List.perm_append_singleton _ _).symm)), q2, q3, q4, hMs2⟩ (by first | omega | (dsimp only; omega)))
                    · have hbe : sDue (s 3 k) < sDue (s 3 (E_.getD (i - 1) 0)) := by
                        rcases hz50 with ⟨-, h1_⟩ | ⟨h1_, -⟩
                        · rw [bf_iff] at h1_; omega
                        · omega
                      refine g_iload C d_Mo_tour_145 5 rfl ?_
                      refine g_bipush C d_Mo_tour_147 (by decide) ?_
                      refine g_icmp_ge C 168 d_Mo_tour_149 rfl (by omega) (fun c56 => ?_) (fun c56 => ?_)
                      · refine g_iinc (lv' := [(5, .int (iI (((i : Int)) + (-1)))), (0, .ref m), (1, .int (iI ((w : Int)))), (2, .int (iI z2_)), (3, .int (iI ((n9 : Int)))), (4, .int (iI ((k : Int))))]) C d_Mo_tour_168 5 rfl (by decide) rfl ?_
                        refine g_goto C 122 d_Mo_tour_171 rfl ?_
                        have hMs2 := hMv
                        have q1 : ∀ j_, j_ < i - 1 → (g) j_ = ((E_.getD j_ 0 : Nat) : Int) := fun j_ hj_ => hi1 j_ (by omega)
                        have q2 : ∀ j_, i - 1 < j_ → j_ ≤ n9 → j_ < 7 → (g) j_ = ((E_.getD (j_ - 1) 0 : Nat) : Int) := by
                          intro j_ h1_ h2_ h3_
                          exact hi2 j_ (by omega) h2_ h3_
                        have q3 : ∀ j_, i - 1 ≤ j_ → j_ < n9 → sDue (s 3 k) < sDue (s 3 (E_.getD j_ 0)) := by
                          intro j_ h1_ h2_
                          by_cases e_ : j_ = i - 1
                          · subst e_; exact hbe
                          · exact hi3 j_ (by omega) h2_
                        rw [show ((i : Int)) + (-1) = ((i - 1 : Nat) : Int) by omega]
                        exact g_sub [1, 2, 3, 4, 5, 0] rfl (ih122 (i - 1, (g), Mv) ⟨(show i - 1 ≤ n9 by omega), q1, q2, q3, hMs2⟩ (by first | omega | (dsimp only; omega)))
                      · refine g_aload_n C d_Mo_tour_152 0 rfl ?_
                        refine g_get C f_Mo_86 hMv.1 rfl d_Mo_tour_153 ?_
                        refine g_iload C d_Mo_tour_156 5 rfl ?_
                        refine g_aload_n C d_Mo_tour_158 0 rfl ?_
                        refine g_get C f_Mo_86 hMv.1 rfl d_Mo_tour_159 ?_
                        refine g_iload C d_Mo_tour_162 5 rfl ?_
                        refine g_iconst C d_Mo_tour_164 ?_
                        refine g_isub C d_Mo_tour_165 ?_
                        refine g_ialdN C 0 hT0 (show Mv (a 24) = some (aI tys 7 g) from hMv.2.1 24 (by decide)) (i - 1) (by omega) (by omega) d_Mo_tour_166 ?_
                        rw [hi1 (i - 1) (by omega)]
                        refine g_iastN C 0 hT0 (show Mv (a 24) = some (aI tys 7 g) from hMv.2.1 24 (by decide)) i (by omega) (by omega) d_Mo_tour_167 ?_ rfl
                        refine g_abs (X := fun M_ => MA tys M_ m a (va_up (va_up f 24 g) 24 (va_up g i (((E_.getD (i - 1) 0 : Nat) : Int)))) 0 (s 0 0 0) ((np : Int)) ((nl : Int)) ((nt : Int)) ((ns : Int)) (s 0 0 5) v7 v8 v9) (MA_F hMv 24 (by decide) (va_up g i (((E_.getD (i - 1) 0 : Nat) : Int))) rfl) (fun M57 hM57 => ?_)
                        refine g_iinc (lv' := [(5, .int (iI (((i : Int)) + (-1)))), (0, .ref m), (1, .int (iI ((w : Int)))), (2, .int (iI z2_)), (3, .int (iI ((n9 : Int)))), (4, .int (iI ((k : Int))))]) C d_Mo_tour_168 5 rfl (by decide) rfl ?_
                        refine g_goto C 122 d_Mo_tour_171 rfl ?_
                        have hMs2 : MA tys M57 m a (va_up f 24 (va_up g i (((E_.getD (i - 1) 0 : Nat) : Int)))) 0 (s 0 0 0) ((np : Int)) ((nl : Int)) ((nt : Int)) ((ns : Int)) (s 0 0 5) v7 v8 v9 := by have h_ := hM57; rw [bx_uu] at h_; exact h_
                        have q1 : ∀ j_, j_ < i - 1 → (va_up g i (((E_.getD (i - 1) 0 : Nat) : Int))) j_ = ((E_.getD j_ 0 : Nat) : Int) := fun j_ hj_ => by rw [iu_n (by omega)]; exact hi1 j_ (by omega)
                        have q2 : ∀ j_, i - 1 < j_ → j_ ≤ n9 → j_ < 7 → (va_up g i (((E_.getD (i - 1) 0 : Nat) : Int))) j_ = ((E_.getD (j_ - 1) 0 : Nat) : Int) := by
                          intro j_ h1_ h2_ h3_
                          by_cases e_ : j_ = i
                          · subst e_; rw [iu_s]
                          · rw [iu_n e_]; exact hi2 j_ (by omega) h2_ h3_
                        have q3 : ∀ j_, i - 1 ≤ j_ → j_ < n9 → sDue (s 3 k) < sDue (s 3 (E_.getD j_ 0)) := by
                          intro j_ h1_ h2_
                          by_cases e_ : j_ = i - 1
                          · subst e_; exact hbe
                          · exact hi3 j_ (by omega) h2_
                        rw [show ((i : Int)) + (-1) = ((i - 1 : Nat) : Int) by omega]
                        exact g_sub [1, 2, 3, 4, 5, 0] rfl (ih122 (i - 1, (va_up g i (((E_.getD (i - 1) 0 : Nat) : Int))), M57) ⟨(show i - 1 ≤ n9 by omega), q1, q2, q3, hMs2⟩ (by first | omega | (dsimp only; omega)))
              · refine g_goto C 205 d_Mo_tour_105 rfl ?_
                refine g_iinc (lv' := [(4, .int (iI (((k : Int)) + 1))), (0, .ref m), (1, .int (iI ((w : Int)))), (2, .int (iI z2_)), (3, .int (iI ((n9 : Int))))]) C d_Mo_tour_205 4 rfl (by decide) rfl ?_
                refine g_goto C 47 d_Mo_tour_208 rfl ?_
                have hel : ¬ (el nl (s 2) (sHP s w) (s 4 w) z2_ (sPP s) (s 3)) k = true := fun h_ => by
                  rw [el_iff] at h_
                  obtain ⟨h1_, h2_, h3_⟩ := h_
                  rw [← hhH, ← hakP, ← hz29] at h3_; omega
                exact g_sub [1, 2, 3, 4, 0] rfl (ih47 (k + 1, E_, n9, g4, Mw) ⟨(show k + 1 ≤ nt by omega), (by rw [fl_s.2 hel]; exact hEp), hEs, hn9, hg4, hMw⟩ (by first | omega | (dsimp only; omega)))
      · exact absurd c8 (by decide)
    · refine g_iconst C d_Mo_tour_25 ?_
      refine g_goto C 30 d_Mo_tour_26 rfl ?_
      refine g_put C p_Mo_98 hM.1 rfl rfl (Nat.le_of_ble_eq_true rfl) (fs' := [.int (iI 1), .int (iI (s 0 0 0)), .int (iI ((np : Int))), .ref (a 0), .ref (a 1), .ref (a 2), .int (iI ((nl : Int))), .ref (a 3), .ref (a 4), .ref (a 5), .ref (a 6), .ref (a 7), .ref (a 8), .int (iI ((nt : Int))), .ref (a 9), .ref (a 10), .ref (a 11), .ref (a 12), .ref (a 13), .ref (a 14), .ref (a 15), .ref (a 16), .ref (a 17), .ref (a 18), .int (iI ((ns : Int))), .ref (a 19), .ref (a 20), .ref (a 21), .ref (a 22), .int (iI (s 0 0 5)), .int (iI v7), .int (iI v8), .int (iI v9), .ref (a 23), .ref (a 24), .ref (a 25), .ref (a 26)]) rfl d_Mo_tour_30 ?_
      refine g_abs (X := fun M_ => MA tys M_ m a f 1 (s 0 0 0) ((np : Int)) ((nl : Int)) ((nt : Int)) ((ns : Int)) (s 0 0 5) v7 v8 v9) (MA_V hM 1 (s 0 0 0) ((np : Int)) ((nl : Int)) ((nt : Int)) ((ns : Int)) (s 0 0 5) v7 v8 v9) (fun M58 hM58 => ?_)
      refine g_aload_n C d_Mo_tour_33 0 rfl ?_
      refine g_get C f_Mo_98 hM58.1 rfl d_Mo_tour_34 ?_
      refine g_if_le C 42 d_Mo_tour_37 rfl (by omega) (fun c59 => ?_) (fun c59 => ?_)
      · exact absurd c59 (by decide)
      · refine g_iconst C d_Mo_tour_40 ?_
        exact g_iret C hr d_Mo_tour_41 (Or.inr ⟨by omega, RM_of hM58 rfl e1.symm e2.symm e3.symm e4.symm rfl e1 e2 e3 e4 hr9 ht9⟩)
