/-! THE MODEL, isTour: written by program (wip/whole/gen/mo8.py) -/
set_option maxHeartbeats 4000000 in
set_option maxRecDepth 100000 in
theorem ct_Mo_isTour (l : Launch) (D : va_G) (tys : xK) (A : Nat → Prop) (M : Wm) (hT : tyOK tys) (m : Nat) (a : Nat → Nat) (f : Nat → Nat → Int) (v0 v1 v2 v4 v5 v6 v7 v8 v9 : Int) (s : AS) (np nl nt ns : Nat) (hS : okS s np nl nt ns) (hr9 : mR s f np nl nt ns) (w n : Nat) (hw : w < ns) (C_ : List Nat) (hCn : C_.Nodup) (hCl : ∀ k, k ∈ C_ → k < nt) (hn : (1 ≤ n ∧ n ≤ 7) ∧ n ≤ C_.length) (hg24 : ∀ k, k < n → f 24 k = ((C_.getD k 0 : Nat) : Int)) (hM : MA tys M m a f v0 v1 v2 ((nl : Int)) v4 v5 v6 v7 v8 v9) : mT l y_Mo_isTour b_Mo_isTour 7 (some .boolean) { frames := 3, cells := 0, slots := 0, locals := 77 } D tys A [.ref m, .int (iI ((w : Int))), .int (iI ((n : Int)))] M (qI D A (fun z M' => ∃ g5 g6 : Nat → Int, MA tys M' m a (va_up (va_up f 25 g5) 26 g6) v0 v1 v2 ((nl : Int)) v4 v5 v6 v7 v8 v9 ∧ ((z = 1 ∧ ∃ (o : List Nat) (W : Int), sB s w (C_.take n) o W ∧ W + trW s C_ n ≤ s 4 w 1 ∧ ∀ k, k < n → g6 k = ((o.getD k 0 : Nat) : Int)) ∨ (z = 0 ∧ ¬ ∃ (o : List Nat) (W : Int), sB s w (C_.take n) o W ∧ W + trW s C_ n ≤ s 4 w 1)))) 0 0 := by
  refine met_of (own := R_Mo) (lv := [(0, .ref m), (1, .int (iI ((w : Int)))), (2, .int (iI ((n : Int))))]) rfl (by decide) (Nat.le_of_ble_eq_true rfl) rfl ?_
  intro p_ e_ s_ m_ bl_ me_ c_ C hr hin
  have hT9 := hT
  obtain ⟨hT0, hT1, hT2, hT3, hT4, hT5, hT32, hT42, hT52, hT43, hT53, hT54⟩ := hT
  have hS0 := hS
  obtain ⟨⟨e1, e2, e3, e4⟩, ⟨b1_, b2_, b3_, b4_⟩, b5_, okp, oklf, okt, oku, oksp, okg, oku6⟩ := hS
  obtain ⟨rp, rl, rt, rz, re, rs⟩ := id hr9
  have hpw := re w hw
  have huw := oku w hw
  have huw9 := huw.1
  unfold okU at huw9
  obtain ⟨h, hh⟩ : ∃ h : Nat, s 4 w 2 = (h : Int) := ⟨(s 4 w 2).toNat, by omega⟩
  refine g_iconst C d_Mo_isTour_0 ?_
  refine g_istore_n (lv' := [(3, .int (iI 0)), (0, .ref m), (1, .int (iI ((w : Int)))), (2, .int (iI ((n : Int))))]) C d_Mo_isTour_1 (by decide) rfl ?_
  refine g_toX ?_
  refine g_sub [1, 2, 3, 0] rfl (g_loop (σ := Nat × List Nat × (Nat → Int) × Wm) (fun q_ => n - q_.1) (fun q_ => (q_.1 ≤ n) ∧ (q_.2.1.Perm (C_.take q_.1)) ∧ (q_.2.1.Pairwise (fun x_ y_ => x_ < y_)) ∧ (∀ j_, j_ < q_.1 → q_.2.2.1 j_ = ((q_.2.1.getD j_ 0 : Nat) : Int)) ∧ (MA tys q_.2.2.2 m a (va_up f 25 q_.2.2.1) v0 v1 v2 ((nl : Int)) v4 v5 v6 v7 v8 v9)) (fun q_ => [(0, .ref m), (1, .int (iI ((w : Int)))), (2, .int (iI ((n : Int)))), (3, .int (iI ((q_.1 : Int))))]) (fun q_ => q_.2.2.2) ?_ (0, [], f 25, M) (⟨Nat.zero_le _, (List.Perm.refl _), List.Pairwise.nil, (fun j_ hj_ => absurd hj_ (Nat.not_lt_zero j_)), (by rw [va_25]; exact hM)⟩))
  intro x_ hI ih2
  obtain ⟨k, L_, g5, Mw⟩ := x_
  try dsimp only at hI ih2 ⊢
  obtain ⟨hk0, hLp, hLs, hg5, hMw⟩ := hI
  refine g_iload_n C d_Mo_isTour_2 3 rfl ?_
  refine g_iload_n C d_Mo_isTour_3 2 rfl ?_
  refine g_icmp_ge C 74 d_Mo_isTour_4 rfl (by omega) (fun c1 => ?_) (fun c1 => ?_)
  · refine g_iconst C d_Mo_isTour_74 ?_
    refine g_istore_n (lv' := [(3, .int (iI ((-1)))), (0, .ref m), (1, .int (iI ((w : Int)))), (2, .int (iI ((n : Int))))]) C d_Mo_isTour_75 (by decide) rfl ?_
    refine g_iconst C d_Mo_isTour_76 ?_
    refine g_istore (lv' := [(4, .int (iI 1)), (3, .int (iI ((-1)))), (0, .ref m), (1, .int (iI ((w : Int)))), (2, .int (iI ((n : Int))))]) C d_Mo_isTour_77 (by decide) rfl ?_
    have hkn9 : k = n := by omega
    have hLn : L_.Perm (C_.take n) := by rw [← hkn9]; exact hLp
    have hsfL : sf (fun k_ => L_.getD k_ 0) 0 n = L_ := sf_cgL (by rw [hLn.length_eq, List.length_take]; omega) (fun _ _ => rfl)
    refine g_toX ?_
    refine g_sub [2, 3, 4, 1, 0] rfl (g_loop (σ := Int × Int × (Nat → Nat) × List Nat × (Nat → Int) × (Nat → Int) × Wm) (fun q_ => if q_.2.1 = 0 then 0 else 163840000001 - vl (sf q_.2.2.1 0 n)) (fun q_ => (q_.2.1 = 0 ∨ q_.2.1 = 1) ∧ (-1 ≤ q_.1 ∧ q_.1 ≤ 28000) ∧ (∀ k_, k_ < n → q_.2.2.2.2.1 k_ = ((q_.2.2.1 k_ : Nat) : Int)) ∧ ((sf q_.2.2.1 0 n).Perm (C_.take n)) ∧ (∀ _ : Unit, 0 ≤ q_.1 → ∀ k_, k_ < n → q_.2.2.2.2.2.1 k_ = ((q_.2.2.2.1.getD k_ 0 : Nat) : Int)) ∧ (∀ _ : Unit, q_.2.1 = 1 → BI nl (s 2) (sPP s) (sHP s w) (C_.take n) (fun p_ => ll p_ (sf q_.2.2.1 0 n)) q_.1 q_.2.2.2.1) ∧ (∀ _ : Unit, q_.2.1 = 0 → BI nl (s 2) (sPP s) (sHP s w) (C_.take n) (fun _ => True) q_.1 q_.2.2.2.1) ∧ (MA tys q_.2.2.2.2.2.2 m a (va_up (va_up f 25 q_.2.2.2.2.1) 26 q_.2.2.2.2.2.1) v0 v1 v2 ((nl : Int)) v4 v5 v6 v7 v8 v9)) (fun q_ => [(0, .ref m), (1, .int (iI ((w : Int)))), (2, .int (iI ((n : Int)))), (3, .int (iI q_.1)), (4, .int (iI q_.2.1))]) (fun q_ => q_.2.2.2.2.2.2) ?_ ((-1), 1, (fun k_ => L_.getD k_ 0), [], g5, f 26, Mw) (⟨(Or.inr rfl), (by show -1 ≤ (-1 : Int) ∧ (-1 : Int) ≤ 28000; decide), (fun k_ hk_ => hg5 k_ (by omega)), (by rw [hsfL]; exact hLn), (fun _ h_ => absurd h_ (show ¬ (0 : Int) ≤ -1 by decide)), (fun _ _ => by rw [hsfL]; exact BI_0 hLn hLs), (fun _ h_ => absurd h_ (show ¬ (1 : Int) = 0 by decide)), (by rw [va_26]; exact hMw)⟩))
    intro x_ hI ih79
    obtain ⟨wk, mo, u, bo, g5, g6, Mw⟩ := x_
    try dsimp only at hI ih79 ⊢
    obtain ⟨hmo, hwk, hu, hup, hbo, hB1, hB0, hMw⟩ := hI
    refine g_iload C d_Mo_isTour_79 4 rfl ?_
    refine g_if_eq C 158 d_Mo_isTour_81 rfl (by omega) (fun c2 => ?_) (fun c2 => ?_)
    · obtain rfl : mo = 0 := by omega
      have hBe := BI_end (hB0 () rfl)
      refine g_iload_n C d_Mo_isTour_158 3 rfl ?_
      refine g_istore (lv' := [(5, .int (iI wk)), (0, .ref m), (1, .int (iI ((w : Int)))), (2, .int (iI ((n : Int)))), (3, .int (iI wk)), (4, .int (iI 0))]) C d_Mo_isTour_159 (by decide) rfl ?_
      refine g_iconst C d_Mo_isTour_161 ?_
      refine g_istore (lv' := [(6, .int (iI 0)), (5, .int (iI wk)), (0, .ref m), (1, .int (iI ((w : Int)))), (2, .int (iI ((n : Int)))), (3, .int (iI wk)), (4, .int (iI 0))]) C d_Mo_isTour_162 (by decide) rfl ?_
      refine g_eq (lv' := [(6, .int (iI 0)), (5, .int (iI (wk + trW s C_ 0))), (0, .ref m), (1, .int (iI ((w : Int)))), (2, .int (iI ((n : Int)))), (3, .int (iI wk)), (4, .int (iI 0))]) (by rw [show wk + trW s C_ 0 = wk from Int.add_zero wk]) rfl ?_
      refine g_sub [2, 3, 4, 5, 1, 0] rfl (g_loop (σ := Nat) (fun q_ => n - q_) (fun q_ => (q_ ≤ n)) (fun q_ => [(0, .ref m), (1, .int (iI ((w : Int)))), (2, .int (iI ((n : Int)))), (3, .int (iI wk)), (5, .int (iI (wk + trW s C_ q_))), (6, .int (iI ((q_ : Int))))]) (fun q_ => Mw) ?_ (0) (Nat.zero_le _))
      intro x_ hI ih164
      obtain ⟨t, rfl⟩ : ∃ z, z = x_ := ⟨_, rfl⟩
      try dsimp only at hI ih164 ⊢
      have ht0 := hI
      have htw : 0 ≤ trW s C_ t ∧ trW s C_ t ≤ 7200 * t := sSum_b (fun k_ hk_ => by have h1_ := (okt (C_.getD k_ 0) (hCl _ (gD_mem (by omega)))).1; unfold okT at h1_; omega)
      refine g_iload C d_Mo_isTour_164 5 rfl ?_
      refine g_iload_n C d_Mo_isTour_166 2 rfl ?_
      refine g_icmp_ge C 193 d_Mo_isTour_167 rfl (by omega) (fun c3 => ?_) (fun c3 => ?_)
      · have htn : t = n := by omega
        subst htn
        refine g_iload_n C d_Mo_isTour_193 3 rfl ?_
        refine g_if_lt C 212 d_Mo_isTour_194 rfl (by omega) (fun c4 => ?_) (fun c4 => ?_)
        · refine g_iconst C d_Mo_isTour_212 ?_
          exact g_zret C hr (by omega) d_Mo_isTour_213 ⟨g5, g6, hMw, Or.inr ⟨rfl, by
              rintro ⟨o_, W_, h3_, h4_⟩
              unfold sB at h3_
              rw [show (s 0 0 2).toNat = nl by omega] at h3_
              rcases hBe with ⟨h1_, h2_⟩ | ⟨h1_, h2_⟩
              · exact h2_ ⟨o_, W_, h3_⟩
              · have h5_ := (Bst_un h3_ h2_).2
                omega⟩⟩
        · refine g_iload C d_Mo_isTour_197 4 rfl ?_
          refine g_aload_n C d_Mo_isTour_199 0 rfl ?_
          refine g_get C f_Mo_73 hMw.1 rfl d_Mo_isTour_200 ?_
          refine g_iload_n C d_Mo_isTour_203 1 rfl ?_
          refine g_ialdN C 0 hT0 (show Mw (a 21) = some (aI tys 8 (f 21)) from hMw.2.1 21 (by decide)) w (by omega) (by omega) d_Mo_isTour_204 ?_
          rw [hpw.2.2]
          refine g_icmp_gt C 212 d_Mo_isTour_205 rfl (by omega) (fun c5 => ?_) (fun c5 => ?_)
          · refine g_iconst C d_Mo_isTour_212 ?_
            exact g_zret C hr (by omega) d_Mo_isTour_213 ⟨g5, g6, hMw, Or.inr ⟨rfl, by
                rintro ⟨o_, W_, h3_, h4_⟩
                unfold sB at h3_
                rw [show (s 0 0 2).toNat = nl by omega] at h3_
                rcases hBe with ⟨h1_, h2_⟩ | ⟨h1_, h2_⟩
                · exact h2_ ⟨o_, W_, h3_⟩
                · have h5_ := (Bst_un h3_ h2_).2
                  omega⟩⟩
          · refine g_iconst C d_Mo_isTour_208 ?_
            refine g_goto C 213 d_Mo_isTour_209 rfl ?_
            exact g_zret C hr (by omega) d_Mo_isTour_213 ⟨g5, g6, hMw, Or.inl ⟨rfl, by
                rcases hBe with ⟨h1_, -⟩ | ⟨h1_, h2_⟩
                · omega
                · exact ⟨bo, wk, (by unfold sB; rw [show (s 0 0 2).toNat = nl by omega]; exact h2_), by omega, fun k_ hk_ => hbo () h1_ k_ hk_⟩⟩⟩
      · have hct := hCl (C_.getD t 0) (gD_mem (show t < C_.length by omega))
        have htq := rt (C_.getD t 0) (by omega)
        have htqo := (okt (C_.getD t 0) (by omega)).1
        have htqu := htqo
        unfold okT at htqo
        have htq9 := (okt (C_.getD t 0) (by omega)).2
        refine g_iload C d_Mo_isTour_170 4 rfl ?_
        refine g_aload_n C d_Mo_isTour_172 0 rfl ?_
        refine g_get C f_Mo_52 hMw.1 rfl d_Mo_isTour_173 ?_
        refine g_aload_n C d_Mo_isTour_176 0 rfl ?_
        refine g_get C f_Mo_86 hMw.1 rfl d_Mo_isTour_177 ?_
        refine g_iload C d_Mo_isTour_180 5 rfl ?_
        refine g_ialdN C 0 hT0 (show Mw (a 24) = some (aI tys 7 (f 24)) from hMw.2.1 24 (by decide)) t (by omega) (by omega) d_Mo_isTour_182 ?_
        rw [hg24 t (by omega)]
        refine g_ialdN C 0 hT0 (show Mw (a 14) = some (aI tys 40 (f 14)) from hMw.2.1 14 (by decide)) (C_.getD t 0) (by omega) (by omega) d_Mo_isTour_183 ?_
        rw [htq.2.2.2.2.2.1]
        refine g_iadd C d_Mo_isTour_184 ?_
        refine g_istore (lv' := [(5, .int (iI ((wk + trW s C_ t) + (s 3 (C_.getD t 0) 4)))), (0, .ref m), (1, .int (iI ((w : Int)))), (2, .int (iI ((n : Int)))), (3, .int (iI wk)), (6, .int (iI ((t : Int))))]) C d_Mo_isTour_185 (by decide) rfl ?_
        refine g_iinc (lv' := [(6, .int (iI (((t : Int)) + 1))), (5, .int (iI ((wk + trW s C_ t) + (s 3 (C_.getD t 0) 4)))), (0, .ref m), (1, .int (iI ((w : Int)))), (2, .int (iI ((n : Int)))), (3, .int (iI wk))]) C d_Mo_isTour_187 5 rfl (by decide) rfl ?_
        refine g_goto C 164 d_Mo_isTour_190 rfl ?_
        rw [show (wk + trW s C_ t) + s 3 (C_.getD t 0) 4 = wk + trW s C_ (t + 1) by unfold trW; rw [sSum.eq_2]; omega]
        exact g_sub [2, 3, 4, 5, 1, 0] rfl (ih164 (t + 1) (show t + 1 ≤ n by omega) (by first | omega | (dsimp only; omega)))
    · obtain rfl : mo = 1 := by omega
      have hB9 := hB1 () rfl
      have huC : ∀ k_, k_ < n → u k_ < nt := fun k_ hk_ => hCl _ (List.mem_of_mem_take (hup.mem_iff.mp (sf_mem.mpr ⟨k_, Nat.zero_le _, hk_, rfl⟩)))
      have huI : ∀ i_ j_, i_ < n → j_ < n → u i_ = u j_ → i_ = j_ := by
        have hnd_ : (sf u 0 n).Nodup := hup.nodup_iff.mpr (hCn.sublist (List.take_sublist _ _))
        intro i_ j_ hi_ hj_ e_
        exact nd_inj hnd_ i_ j_ (by rw [sf_len]; omega) (by rw [sf_len]; omega) (by rw [sf_get hi_, sf_get hj_]; exact e_)
      refine g_aload_n C d_Mo_isTour_84 0 rfl ?_
      refine g_aload_n C d_Mo_isTour_85 0 rfl ?_
      refine g_get C f_Mo_89 hMw.1 rfl d_Mo_isTour_86 ?_
      refine g_iload_n C d_Mo_isTour_89 2 rfl ?_
      refine g_aload_n C d_Mo_isTour_90 0 rfl ?_
      refine g_get C f_Mo_70 hMw.1 rfl d_Mo_isTour_91 ?_
      refine g_iload_n C d_Mo_isTour_94 1 rfl ?_
      refine g_ialdN C 0 hT0 (show Mw (a 20) = some (aI tys 8 (f 20)) from hMw.2.1 20 (by decide)) w (by omega) (by omega) d_Mo_isTour_95 ?_
      rw [hpw.2.1.trans hh]
      refine g_calliP C (run_V C [.ref ((a 25)), .int (iI ((n : Int))), .int (iI ((h : Int)))] k_Mo_153 (ct_Mo_walksOf l D tys A Mw hT9 m a (va_up (va_up f 25 g5) 26 g6) v0 v1 v2 v4 v5 v6 v7 v8 v9 s np nl nt ns hS0 hr9 25 n h u (by decide) ⟨by show n ≤ 7; omega, by decide⟩ (by omega) (fun k_ hk_ => ⟨hu k_ hk_, huC k_ hk_⟩) hMw) hMw.1 ⟨rfl, rfl, Nat.le_of_ble_eq_true rfl, Nat.le_of_ble_eq_true rfl⟩ rfl rfl (Nat.le_of_ble_eq_true rfl) d_Mo_isTour_96 ⟨Nat.le_of_ble_eq_true rfl, Nat.le_of_ble_eq_true rfl⟩) (fun z6 hz6 => ?_)
      have P0_ : s 1 (hN s h n u 0) = sHP s w := by rw [hN_0]; unfold sHP; rw [hh]; rfl
      have P1_ : ∀ k_, k_ < (sf u 0 n).length → s 1 (hN s h n u (k_ + 1)) = sPP s ((sf u 0 n).getD k_ 0) := fun k_ hk_ => by rw [sf_len] at hk_; rw [hN_s (show k_ < n by omega), sf_get (by omega)]
      have P2_ : s 1 (hN s h n u ((sf u 0 n).length + 1)) = sHP s w := by rw [hN_e (by rw [sf_len]; omega)]; unfold sHP; rw [hh]; rfl
      have hvw : (vld nl (s 2) (sPP s) (sHP s w) (sHP s w) (sf u 0 n) ∧ z6 = wls nl (s 2) (sPP s) (sHP s w) (sHP s w) (sf u 0 n) ∧ 0 ≤ z6 ∧ z6 ≤ 28000) ∨ (¬ vld nl (s 2) (sPP s) (sHP s w) (sHP s w) (sf u 0 n) ∧ z6 = -1) := by
        rcases hz6 with ⟨h1_, h2_⟩ | ⟨⟨k_, h1_, h2_⟩, h3_⟩
        · have hv_ := vld_of (nl := nl) (lf := s 2) (pp := sPP s) (ph := sHP s w) (sf u 0 n) _ (fun k_ => s 1 (hN s h n u k_)) P0_ P1_ P2_ (fun k_ hk_ => h1_ k_ (by rw [sf_len] at hk_; omega))
          obtain ⟨-, hw_⟩ := vld_lg (nl := nl) (lf := s 2) (pp := sPP s) (ph := sHP s w) (sf u 0 n) _ (fun k_ => s 1 (hN s h n u k_)) P0_ P1_ P2_ hv_
          rw [sf_len, Nat.sub_zero] at hw_
          have hb_ := sLg_b (nl := nl) (lf := s 2) (P := fun k_ => s 1 (hN s h n u k_)) (n := n + 1) (fun k_ hk_ => by
            have q1_ := sWay_b (nl := nl) oklf (okp _ (hN_lt (h := h) (n := n) (sq := u) (k := k_) hS0 (by omega) huC)) (okp _ (hN_lt (h := h) (n := n) (sq := u) (k := k_ + 1) hS0 (by omega) huC))
            have q2_ := h1_ k_ (by omega)
            omega)
          exact Or.inl ⟨hv_, h2_.trans hw_.symm, by omega, by omega⟩
        · refine Or.inr ⟨fun hv_ => ?_, h3_⟩
          obtain ⟨hl_, -⟩ := vld_lg (nl := nl) (lf := s 2) (pp := sPP s) (ph := sHP s w) (sf u 0 n) _ (fun k_ => s 1 (hN s h n u k_)) P0_ P1_ P2_ hv_
          exact hl_ k_ (by rw [sf_len]; omega) h2_
      replace hz6 := hvw
      have hzr : -1 ≤ z6 ∧ z6 ≤ 28000 := by
        rcases hz6 with ⟨-, -, h1_, h2_⟩ | ⟨-, h1_⟩ <;> omega
      refine g_istore (lv' := [(5, .int (iI z6)), (0, .ref m), (1, .int (iI ((w : Int)))), (2, .int (iI ((n : Int)))), (3, .int (iI wk)), (4, .int (iI 1))]) C d_Mo_isTour_99 (by decide) rfl ?_
      refine g_iload C d_Mo_isTour_101 0 rfl ?_
      refine g_if_lt C 148 d_Mo_isTour_103 rfl (by omega) (fun c7 => ?_) (fun c7 => ?_)
      · have hBx : BI nl (s 2) (sPP s) (sHP s w) (C_.take n) (fun p_ => lx p_ (sf u 0 n)) wk bo := by
          rcases hz6 with ⟨-, -, h3_, -⟩ | ⟨h1_, -⟩
          · omega
          · exact BI_keep hup hB9 h1_
        have hbx := hbo
        refine g_aload_n C d_Mo_isTour_148 1 rfl ?_
        refine g_iload_n C d_Mo_isTour_149 3 rfl ?_
        refine g_calli C (run_V C [.int (iI ((n : Int)))] k_Mo_157 (ct_Mo_next l D tys A Mw hT9 m a (va_up (va_up f 25 g5) 26 g6) v0 v1 v2 ((nl : Int)) v4 v5 v6 v7 v8 v9 n (by omega) u (fun k_ hk_ => ⟨hu k_ hk_, by have := huC k_ hk_; omega⟩) huI hMw) hMw.1 ⟨rfl, rfl, Nat.le_of_ble_eq_true rfl, Nat.le_of_ble_eq_true rfl⟩ rfl rfl (Nat.le_of_ble_eq_true rfl) d_Mo_isTour_150 ⟨Nat.le_of_ble_eq_true rfl, Nat.le_of_ble_eq_true rfl⟩) (fun z9 M8 hM8 => ?_)
        refine g_istore (lv' := [(4, .int (iI z9)), (5, .int (iI z6)), (0, .ref m), (1, .int (iI ((w : Int)))), (2, .int (iI ((n : Int)))), (3, .int (iI wk))]) C d_Mo_isTour_153 (by decide) rfl ?_
        refine g_goto C 79 d_Mo_isTour_155 rfl ?_
        have hvl : vl (sf u 0 n) < 163840000000 := by
          have h1_ := vl_lt (o := sf u 0 n) (fun x_ hx_ => by obtain ⟨k_, -, h2_, h3_⟩ := sf_mem.mp hx_; have := huC k_ h2_; omega)
          rw [sf_len, Nat.sub_zero] at h1_
          have h2_ : 40 ^ n ≤ 40 ^ 7 := Nat.pow_le_pow_right (by decide) (by omega)
          have h3_ : (40 : Nat) ^ 7 = 163840000000 := by decide
          omega
        rcases hM8 with ⟨rfl, hdec, hMn⟩ | ⟨rfl, u2, g2, hSC, hu2, hMn⟩
        · have hA9 := BI_all hup (sf_pw (fun x_ y_ h1_ h2_ h3_ => by
            have h4_ := dec_lt (i := 0) (n := n + 1) (u := fun k_ => u (k_ - 1)) (fun k_ h5_ h6_ => by
              have h7_ := hdec (k_ - 1) (by omega)
              rw [show k_ - 1 + 1 = k_ by omega] at h7_
              exact h7_) (x_ + 1) (y_ - x_ - 1) (by omega) (by omega)
            rw [show x_ + 1 + (y_ - x_ - 1) + 1 - 1 = y_ by omega, Nat.add_sub_cancel] at h4_
            exact h4_)) hBx
          exact g_sub [2, 3, 4, 5, 0] rfl (ih79 (wk, 0, u, bo, g5, g6, M8) ⟨(Or.inl rfl), hwk, hu, hup, hbx, (fun _ h_ => absurd h_ (show ¬ (0 : Int) = 1 by decide)), (fun _ _ => hA9), hMn⟩ (by show (if (0 : Int) = 0 then 0 else 163840000001 - vl (sf u 0 n)) < (if (1 : Int) = 0 then 0 else 163840000001 - vl (sf u 0 n)); rw [if_pos rfl, if_neg (by decide)]; omega))
        · have hvl2 := ll_vl (by rw [sf_len, sf_len]) (fun x_ hx_ => by obtain ⟨k_, -, h2_, h3_⟩ := sf_mem.mp hx_; have := huC k_ h2_; omega) hSC.1
          rw [va_3] at hMn
          exact g_sub [2, 3, 4, 5, 0] rfl (ih79 (wk, 1, u2, bo, g2, g6, M8) ⟨(Or.inr rfl), hwk, hu2, (hSC.2.1.trans hup), hbx, (fun _ _ => BI_next hup hSC hBx), (fun _ h_ => absurd h_ (show ¬ (1 : Int) = 0 by decide)), hMn⟩ (by show (if (1 : Int) = 0 then 0 else 163840000001 - vl (sf u2 0 n)) < (if (1 : Int) = 0 then 0 else 163840000001 - vl (sf u 0 n)); rw [if_neg (by decide), if_neg (by decide)]; omega))
      · refine g_iload_n C d_Mo_isTour_106 4 rfl ?_
        refine g_if_lt C 116 d_Mo_isTour_107 rfl (by omega) (fun c10 => ?_) (fun c10 => ?_)
        · refine g_iload C d_Mo_isTour_116 0 rfl ?_
          refine g_istore_n (lv' := [(3, .int (iI z6)), (5, .int (iI z6)), (0, .ref m), (1, .int (iI ((w : Int)))), (2, .int (iI ((n : Int)))), (4, .int (iI 1))]) C d_Mo_isTour_118 (by decide) rfl ?_
          refine g_iconst C d_Mo_isTour_119 ?_
          refine g_istore (lv' := [(6, .int (iI 0)), (3, .int (iI z6)), (5, .int (iI z6)), (0, .ref m), (1, .int (iI ((w : Int)))), (2, .int (iI ((n : Int)))), (4, .int (iI 1))]) C d_Mo_isTour_120 (by decide) rfl ?_
          refine g_sub [3, 4, 5, 1, 6, 0] rfl (g_loop (σ := Nat × (Nat → Int) × Wm) (fun q_ => n - q_.1) (fun q_ => (q_.1 ≤ n) ∧ (∀ j_, j_ < q_.1 → q_.2.1 j_ = ((u j_ : Nat) : Int)) ∧ (MA tys q_.2.2 m a (va_up (va_up f 25 g5) 26 q_.2.1) v0 v1 v2 ((nl : Int)) v4 v5 v6 v7 v8 v9)) (fun q_ => [(0, .ref m), (1, .int (iI ((w : Int)))), (2, .int (iI ((n : Int)))), (3, .int (iI z6)), (4, .int (iI 1)), (6, .int (iI ((q_.1 : Int))))]) (fun q_ => q_.2.2) ?_ (0, g6, Mw) (⟨Nat.zero_le _, (fun j_ hj_ => absurd hj_ (Nat.not_lt_zero j_)), hMw⟩))
          intro x_ hI ih122
          obtain ⟨t, g, Mv⟩ := x_
          try dsimp only at hI ih122 ⊢
          obtain ⟨ht0, hcp, hMv⟩ := hI
          refine g_iload C d_Mo_isTour_122 5 rfl ?_
          refine g_iload_n C d_Mo_isTour_124 2 rfl ?_
          refine g_icmp_ge C 148 d_Mo_isTour_125 rfl (by omega) (fun c11 => ?_) (fun c11 => ?_)
          · have hBx : BI nl (s 2) (sPP s) (sHP s w) (C_.take n) (fun p_ => lx p_ (sf u 0 n)) z6 (sf u 0 n) := by
              rcases hz6 with ⟨h1_, h2_, h3_, -⟩ | ⟨-, h1_⟩
              · have hb_ := BI_better hup hB9 h1_ (by omega) (by omega)
                rw [← h2_] at hb_
                exact hb_
              · omega
            have hbx : ∀ _ : Unit, 0 ≤ z6 → ∀ k_, k_ < n → g k_ = (((sf u 0 n).getD k_ 0 : Nat) : Int) := fun _ _ k_ hk_ => by rw [sf_get hk_]; exact hcp k_ (by omega)
            refine g_aload_n C d_Mo_isTour_148 0 rfl ?_
            refine g_iload_n C d_Mo_isTour_149 2 rfl ?_
            refine g_calli C (run_V C [.int (iI ((n : Int)))] k_Mo_157 (ct_Mo_next l D tys A Mv hT9 m a (va_up (va_up f 25 g5) 26 g) v0 v1 v2 ((nl : Int)) v4 v5 v6 v7 v8 v9 n (by omega) u (fun k_ hk_ => ⟨hu k_ hk_, by have := huC k_ hk_; omega⟩) huI hMv) hMv.1 ⟨rfl, rfl, Nat.le_of_ble_eq_true rfl, Nat.le_of_ble_eq_true rfl⟩ rfl rfl (Nat.le_of_ble_eq_true rfl) d_Mo_isTour_150 ⟨Nat.le_of_ble_eq_true rfl, Nat.le_of_ble_eq_true rfl⟩) (fun z13 M12 hM12 => ?_)
            refine g_istore (lv' := [(4, .int (iI z13)), (0, .ref m), (1, .int (iI ((w : Int)))), (2, .int (iI ((n : Int)))), (3, .int (iI z6)), (6, .int (iI ((t : Int))))]) C d_Mo_isTour_153 (by decide) rfl ?_
            refine g_goto C 79 d_Mo_isTour_155 rfl ?_
            have hvl : vl (sf u 0 n) < 163840000000 := by
              have h1_ := vl_lt (o := sf u 0 n) (fun x_ hx_ => by obtain ⟨k_, -, h2_, h3_⟩ := sf_mem.mp hx_; have := huC k_ h2_; omega)
              rw [sf_len, Nat.sub_zero] at h1_
              have h2_ : 40 ^ n ≤ 40 ^ 7 := Nat.pow_le_pow_right (by decide) (by omega)
              have h3_ : (40 : Nat) ^ 7 = 163840000000 := by decide
              omega
            rcases hM12 with ⟨rfl, hdec, hMn⟩ | ⟨rfl, u2, g2, hSC, hu2, hMn⟩
            · have hA9 := BI_all hup (sf_pw (fun x_ y_ h1_ h2_ h3_ => by
                have h4_ := dec_lt (i := 0) (n := n + 1) (u := fun k_ => u (k_ - 1)) (fun k_ h5_ h6_ => by
                  have h7_ := hdec (k_ - 1) (by omega)
                  rw [show k_ - 1 + 1 = k_ by omega] at h7_
                  exact h7_) (x_ + 1) (y_ - x_ - 1) (by omega) (by omega)
                rw [show x_ + 1 + (y_ - x_ - 1) + 1 - 1 = y_ by omega, Nat.add_sub_cancel] at h4_
                exact h4_)) hBx
              exact g_sub [1, 2, 3, 4, 0] rfl (ih79 (z6, 0, u, (sf u 0 n), g5, g, M12) ⟨(Or.inl rfl), (by omega), hu, hup, hbx, (fun _ h_ => absurd h_ (show ¬ (0 : Int) = 1 by decide)), (fun _ _ => hA9), hMn⟩ (by show (if (0 : Int) = 0 then 0 else 163840000001 - vl (sf u 0 n)) < (if (1 : Int) = 0 then 0 else 163840000001 - vl (sf u 0 n)); rw [if_pos rfl, if_neg (by decide)]; omega))
            · have hvl2 := ll_vl (by rw [sf_len, sf_len]) (fun x_ hx_ => by obtain ⟨k_, -, h2_, h3_⟩ := sf_mem.mp hx_; have := huC k_ h2_; omega) hSC.1
              rw [va_3] at hMn
              exact g_sub [1, 2, 3, 4, 0] rfl (ih79 (z6, 1, u2, (sf u 0 n), g2, g, M12) ⟨(Or.inr rfl), (by omega), hu2, (hSC.2.1.trans hup), hbx, (fun _ _ => BI_next hup hSC hBx), (fun _ h_ => absurd h_ (show ¬ (1 : Int) = 0 by decide)), hMn⟩ (by show (if (1 : Int) = 0 then 0 else 163840000001 - vl (sf u2 0 n)) < (if (1 : Int) = 0 then 0 else 163840000001 - vl (sf u 0 n)); rw [if_neg (by decide), if_neg (by decide)]; omega))
          · refine g_aload_n C d_Mo_isTour_128 0 rfl ?_
            refine g_get C f_Mo_92 hMv.1 rfl d_Mo_isTour_129 ?_
            refine g_iload C d_Mo_isTour_132 5 rfl ?_
            refine g_aload_n C d_Mo_isTour_134 0 rfl ?_
            refine g_get C f_Mo_89 hMv.1 rfl d_Mo_isTour_135 ?_
            refine g_iload C d_Mo_isTour_138 5 rfl ?_
            refine g_ialdN C 0 hT0 (show Mv (a 25) = some (aI tys 7 g5) from hMv.2.1 25 (by decide)) t (by omega) (by omega) d_Mo_isTour_140 ?_
            rw [hu t (by omega)]
            refine g_iastN C 0 hT0 (show Mv (a 26) = some (aI tys 7 g) from hMv.2.1 26 (by decide)) t (by omega) (by omega) d_Mo_isTour_141 ?_ rfl
            refine g_abs (X := fun M_ => MA tys M_ m a (va_up (va_up (va_up f 25 g5) 26 g) 26 (va_up g t (((u t : Nat) : Int)))) v0 v1 v2 ((nl : Int)) v4 v5 v6 v7 v8 v9) (MA_F hMv 26 (by decide) (va_up g t (((u t : Nat) : Int))) rfl) (fun M14 hM14 => ?_)
            refine g_iinc (lv' := [(6, .int (iI (((t : Int)) + 1))), (0, .ref m), (1, .int (iI ((w : Int)))), (2, .int (iI ((n : Int)))), (3, .int (iI z6)), (4, .int (iI 1))]) C d_Mo_isTour_142 5 rfl (by decide) rfl ?_
            refine g_goto C 122 d_Mo_isTour_145 rfl ?_
            have hMs2 : MA tys M14 m a (va_up (va_up f 25 g5) 26 (va_up g t (((u t : Nat) : Int)))) v0 v1 v2 ((nl : Int)) v4 v5 v6 v7 v8 v9 := by have h_ := hM14; rw [bx_uu] at h_; exact h_
            have q1 : ∀ j_, j_ < t + 1 → (va_up g t (((u t : Nat) : Int))) j_ = ((u j_ : Nat) : Int) := by
              intro j_ hj_
              by_cases e_ : j_ = t
              · subst e_; rw [iu_s]
              · rw [iu_n e_]; exact hcp j_ (by omega)
            exact g_sub [1, 2, 3, 4, 5, 0] rfl (ih122 (t + 1, (va_up g t (((u t : Nat) : Int))), M14) ⟨(show t + 1 ≤ n by omega), q1, hMs2⟩ (by first | omega | (dsimp only; omega)))
        · refine g_iload C d_Mo_isTour_110 0 rfl ?_
          refine g_iload_n C d_Mo_isTour_112 4 rfl ?_
          refine g_icmp_ge C 148 d_Mo_isTour_113 rfl (by omega) (fun c15 => ?_) (fun c15 => ?_)
          · have hBx : BI nl (s 2) (sPP s) (sHP s w) (C_.take n) (fun p_ => lx p_ (sf u 0 n)) wk bo := by
              rcases hz6 with ⟨-, h2_, h3_, -⟩ | ⟨-, h1_⟩
              · exact BI_worse hup hB9 (by omega) (by omega)
              · omega
            have hbx := hbo
            refine g_aload_n C d_Mo_isTour_148 1 rfl ?_
            refine g_iload_n C d_Mo_isTour_149 3 rfl ?_
            refine g_calli C (run_V C [.int (iI ((n : Int)))] k_Mo_157 (ct_Mo_next l D tys A Mw hT9 m a (va_up (va_up f 25 g5) 26 g6) v0 v1 v2 ((nl : Int)) v4 v5 v6 v7 v8 v9 n (by omega) u (fun k_ hk_ => ⟨hu k_ hk_, by have := huC k_ hk_; omega⟩) huI hMw) hMw.1 ⟨rfl, rfl, Nat.le_of_ble_eq_true rfl, Nat.le_of_ble_eq_true rfl⟩ rfl rfl (Nat.le_of_ble_eq_true rfl) d_Mo_isTour_150 ⟨Nat.le_of_ble_eq_true rfl, Nat.le_of_ble_eq_true rfl⟩) (fun z17 M16 hM16 => ?_)
            refine g_istore (lv' := [(4, .int (iI z17)), (5, .int (iI z6)), (0, .ref m), (1, .int (iI ((w : Int)))), (2, .int (iI ((n : Int)))), (3, .int (iI wk))]) C d_Mo_isTour_153 (by decide) rfl ?_
            refine g_goto C 79 d_Mo_isTour_155 rfl ?_
            have hvl : vl (sf u 0 n) < 163840000000 := by
              have h1_ := vl_lt (o := sf u 0 n) (fun x_ hx_ => by obtain ⟨k_, -, h2_, h3_⟩ := sf_mem.mp hx_; have := huC k_ h2_; omega)
              rw [sf_len, Nat.sub_zero] at h1_
              have h2_ : 40 ^ n ≤ 40 ^ 7 := Nat.pow_le_pow_right (by decide) (by omega)
              have h3_ : (40 : Nat) ^ 7 = 163840000000 := by decide
              omega
            rcases hM16 with ⟨rfl, hdec, hMn⟩ | ⟨rfl, u2, g2, hSC, hu2, hMn⟩
            · have hA9 := BI_all hup (sf_pw (fun x_ y_ h1_ h2_ h3_ => by
                have h4_ := dec_lt (i := 0) (n := n + 1) (u := fun k_ => u (k_ - 1)) (fun k_ h5_ h6_ => by
                  have h7_ := hdec (k_ - 1) (by omega)
                  rw [show k_ - 1 + 1 = k_ by omega] at h7_
                  exact h7_) (x_ + 1) (y_ - x_ - 1) (by omega) (by omega)
                rw [show x_ + 1 + (y_ - x_ - 1) + 1 - 1 = y_ by omega, Nat.add_sub_cancel] at h4_
                exact h4_)) hBx
              exact g_sub [2, 3, 4, 5, 0] rfl (ih79 (wk, 0, u, bo, g5, g6, M16) ⟨(Or.inl rfl), hwk, hu, hup, hbx, (fun _ h_ => absurd h_ (show ¬ (0 : Int) = 1 by decide)), (fun _ _ => hA9), hMn⟩ (by show (if (0 : Int) = 0 then 0 else 163840000001 - vl (sf u 0 n)) < (if (1 : Int) = 0 then 0 else 163840000001 - vl (sf u 0 n)); rw [if_pos rfl, if_neg (by decide)]; omega))
            · have hvl2 := ll_vl (by rw [sf_len, sf_len]) (fun x_ hx_ => by obtain ⟨k_, -, h2_, h3_⟩ := sf_mem.mp hx_; have := huC k_ h2_; omega) hSC.1
              rw [va_3] at hMn
              exact g_sub [2, 3, 4, 5, 0] rfl (ih79 (wk, 1, u2, bo, g2, g6, M16) ⟨(Or.inr rfl), hwk, hu2, (hSC.2.1.trans hup), hbx, (fun _ _ => BI_next hup hSC hBx), (fun _ h_ => absurd h_ (show ¬ (1 : Int) = 0 by decide)), hMn⟩ (by show (if (1 : Int) = 0 then 0 else 163840000001 - vl (sf u2 0 n)) < (if (1 : Int) = 0 then 0 else 163840000001 - vl (sf u 0 n)); rw [if_neg (by decide), if_neg (by decide)]; omega))
          · refine g_iload C d_Mo_isTour_116 0 rfl ?_
            refine g_istore_n (lv' := [(3, .int (iI z6)), (5, .int (iI z6)), (0, .ref m), (1, .int (iI ((w : Int)))), (2, .int (iI ((n : Int)))), (4, .int (iI 1))]) C d_Mo_isTour_118 (by decide) rfl ?_
            refine g_iconst C d_Mo_isTour_119 ?_
            refine g_istore (lv' := [(6, .int (iI 0)), (3, .int (iI z6)), (5, .int (iI z6)), (0, .ref m), (1, .int (iI ((w : Int)))), (2, .int (iI ((n : Int)))), (4, .int (iI 1))]) C d_Mo_isTour_120 (by decide) rfl ?_
            refine g_sub [3, 4, 5, 1, 6, 0] rfl (g_loop (σ := Nat × (Nat → Int) × Wm) (fun q_ => n - q_.1) (fun q_ => (q_.1 ≤ n) ∧ (∀ j_, j_ < q_.1 → q_.2.1 j_ = ((u j_ : Nat) : Int)) ∧ (MA tys q_.2.2 m a (va_up (va_up f 25 g5) 26 q_.2.1) v0 v1 v2 ((nl : Int)) v4 v5 v6 v7 v8 v9)) (fun q_ => [(0, .ref m), (1, .int (iI ((w : Int)))), (2, .int (iI ((n : Int)))), (3, .int (iI z6)), (4, .int (iI 1)), (6, .int (iI ((q_.1 : Int))))]) (fun q_ => q_.2.2) ?_ (0, g6, Mw) (⟨Nat.zero_le _, (fun j_ hj_ => absurd hj_ (Nat.not_lt_zero j_)), hMw⟩))
            intro x_ hI ih122
            obtain ⟨t, g, Mv⟩ := x_
            try dsimp only at hI ih122 ⊢
            obtain ⟨ht0, hcp, hMv⟩ := hI
            refine g_iload C d_Mo_isTour_122 5 rfl ?_
            refine g_iload_n C d_Mo_isTour_124 2 rfl ?_
            refine g_icmp_ge C 148 d_Mo_isTour_125 rfl (by omega) (fun c18 => ?_) (fun c18 => ?_)
            · have hBx : BI nl (s 2) (sPP s) (sHP s w) (C_.take n) (fun p_ => lx p_ (sf u 0 n)) z6 (sf u 0 n) := by
                rcases hz6 with ⟨h1_, h2_, h3_, -⟩ | ⟨-, h1_⟩
                · have hb_ := BI_better hup hB9 h1_ (by omega) (by omega)
                  rw [← h2_] at hb_
                  exact hb_
                · omega
              have hbx : ∀ _ : Unit, 0 ≤ z6 → ∀ k_, k_ < n → g k_ = (((sf u 0 n).getD k_ 0 : Nat) : Int) := fun _ _ k_ hk_ => by rw [sf_get hk_]; exact hcp k_ (by omega)
              refine g_aload_n C d_Mo_isTour_148 0 rfl ?_
              refine g_iload_n C d_Mo_isTour_149 2 rfl ?_
              refine g_calli C (run_V C [.int (iI ((n : Int)))] k_Mo_157 (ct_Mo_next l D tys A Mv hT9 m a (va_up (va_up f 25 g5) 26 g) v0 v1 v2 ((nl : Int)) v4 v5 v6 v7 v8 v9 n (by omega) u (fun k_ hk_ => ⟨hu k_ hk_, by have := huC k_ hk_; omega⟩) huI hMv) hMv.1 ⟨rfl, rfl, Nat.le_of_ble_eq_true rfl, Nat.le_of_ble_eq_true rfl⟩ rfl rfl (Nat.le_of_ble_eq_true rfl) d_Mo_isTour_150 ⟨Nat.le_of_ble_eq_true rfl, Nat.le_of_ble_eq_true rfl⟩) (fun z20 M19 hM19 => ?_)
              refine g_istore (lv' := [(4, .int (iI z20)), (0, .ref m), (1, .int (iI ((w : Int)))), (2, .int (iI ((n : Int)))), (3, .int (iI z6)), (6, .int (iI ((t : Int))))]) C d_Mo_isTour_153 (by decide) rfl ?_
              refine g_goto C 79 d_Mo_isTour_155 rfl ?_
              have hvl : vl (sf u 0 n) < 163840000000 := by
                have h1_ := vl_lt (o := sf u 0 n) (fun x_ hx_ => by obtain ⟨k_, -, h2_, h3_⟩ := sf_mem.mp hx_; have := huC k_ h2_; omega)
                rw [sf_len, Nat.sub_zero] at h1_
                have h2_ : 40 ^ n ≤ 40 ^ 7 := Nat.pow_le_pow_right (by decide) (by omega)
                have h3_ : (40 : Nat) ^ 7 = 163840000000 := by decide
                omega
              rcases hM19 with ⟨rfl, hdec, hMn⟩ | ⟨rfl, u2, g2, hSC, hu2, hMn⟩
              · have hA9 := BI_all hup (sf_pw (fun x_ y_ h1_ h2_ h3_ => by
                  have h4_ := dec_lt (i := 0) (n := n + 1) (u := fun k_ => u (k_ - 1)) (fun k_ h5_ h6_ => by
                    have h7_ := hdec (k_ - 1) (by omega)
                    rw [show k_ - 1 + 1 = k_ by omega] at h7_
                    exact h7_) (x_ + 1) (y_ - x_ - 1) (by omega) (by omega)
                  rw [show x_ + 1 + (y_ - x_ - 1) + 1 - 1 = y_ by omega, Nat.add_sub_cancel] at h4_
                  exact h4_)) hBx
                exact g_sub [1, 2, 3, 4, 0] rfl (ih79 (z6, 0, u, (sf u 0 n), g5, g, M19) ⟨(Or.inl rfl), (by omega), hu, hup, hbx, (fun _ h_ => absurd h_ (show ¬ (0 : Int) = 1 by decide)), (fun _ _ => hA9), hMn⟩ (by show (if (0 : Int) = 0 then 0 else 163840000001 - vl (sf u 0 n)) < (if (1 : Int) = 0 then 0 else 163840000001 - vl (sf u 0 n)); rw [if_pos rfl, if_neg (by decide)]; omega))
              · have hvl2 := ll_vl (by rw [sf_len, sf_len]) (fun x_ hx_ => by obtain ⟨k_, -, h2_, h3_⟩ := sf_mem.mp hx_; have := huC k_ h2_; omega) hSC.1
                rw [va_3] at hMn
                exact g_sub [1, 2, 3, 4, 0] rfl (ih79 (z6, 1, u2, (sf u 0 n), g2, g, M19) ⟨(Or.inr rfl), (by omega), hu2, (hSC.2.1.trans hup), hbx, (fun _ _ => BI_next hup hSC hBx), (fun _ h_ => absurd h_ (show ¬ (1 : Int) = 0 by decide)), hMn⟩ (by show (if (1 : Int) = 0 then 0 else 163840000001 - vl (sf u2 0 n)) < (if (1 : Int) = 0 then 0 else 163840000001 - vl (sf u 0 n)); rw [if_neg (by decide), if_neg (by decide)]; omega))
            · refine g_aload_n C d_Mo_isTour_128 0 rfl ?_
              refine g_get C f_Mo_92 hMv.1 rfl d_Mo_isTour_129 ?_
              refine g_iload C d_Mo_isTour_132 5 rfl ?_
              refine g_aload_n C d_Mo_isTour_134 0 rfl ?_
              refine g_get C f_Mo_89 hMv.1 rfl d_Mo_isTour_135 ?_
              refine g_iload C d_Mo_isTour_138 5 rfl ?_
              refine g_ialdN C 0 hT0 (show Mv (a 25) = some (aI tys 7 g5) from hMv.2.1 25 (by decide)) t (by omega) (by omega) d_Mo_isTour_140 ?_
              rw [hu t (by omega)]
              refine g_iastN C 0 hT0 (show Mv (a 26) = some (aI tys 7 g) from hMv.2.1 26 (by decide)) t (by omega) (by omega) d_Mo_isTour_141 ?_ rfl
              refine g_abs (X := fun M_ => MA tys M_ m a (va_up (va_up (va_up f 25 g5) 26 g) 26 (va_up g t (((u t : Nat) : Int)))) v0 v1 v2 ((nl : Int)) v4 v5 v6 v7 v8 v9) (MA_F hMv 26 (by decide) (va_up g t (((u t : Nat) : Int))) rfl) (fun M21 hM21 => ?_)
              refine g_iinc (lv' := [(6, .int (iI (((t : Int)) + 1))), (0, .ref m), (1, .int (iI ((w : Int)))), (2, .int (iI ((n : Int)))), (3, .int (iI z6)), (4, .int (iI 1))]) C d_Mo_isTour_142 5 rfl (by decide) rfl ?_
              refine g_goto C 122 d_Mo_isTour_145 rfl ?_
              have hMs2 : MA tys M21 m a (va_up (va_up f 25 g5) 26 (va_up g t (((u t : Nat) : Int)))) v0 v1 v2 ((nl : Int)) v4 v5 v6 v7 v8 v9 := by have h_ := hM21; rw [bx_uu] at h_; exact h_
              have q1 : ∀ j_, j_ < t + 1 → (va_up g t (((u t : Nat) : Int))) j_ = ((u j_ : Nat) : Int) := by
                intro j_ hj_
                by_cases e_ : j_ = t
                · subst e_; rw [iu_s]
                · rw [iu_n e_]; exact hcp j_ (by omega)
              exact g_sub [1, 2, 3, 4, 5, 0] rfl (ih122 (t + 1, (va_up g t (((u t : Nat) : Int))), M21) ⟨(show t + 1 ≤ n by omega), q1, hMs2⟩ (by first | omega | (dsimp only; omega)))
  · have hck := hCl (C_.getD k 0) (gD_mem (show k < C_.length by omega))
    have hll9 : L_.length = k := by rw [hLp.length_eq, List.length_take]; omega
    have hLl : ∀ j_, j_ < k → L_.getD j_ 0 < 40 := fun j_ hj_ => by have := hCl _ (List.mem_of_mem_take (hLp.mem_iff.mp (gD_mem (show j_ < L_.length by omega)))); omega
    refine g_iload_n C d_Mo_isTour_7 3 rfl ?_
    refine g_istore (lv' := [(4, .int (iI ((k : Int)))), (0, .ref m), (1, .int (iI ((w : Int)))), (2, .int (iI ((n : Int)))), (3, .int (iI ((k : Int))))]) C d_Mo_isTour_8 (by decide) rfl ?_
    refine g_sub [1, 2, 3, 4, 0] rfl (g_loop (σ := Nat × (Nat → Int) × Wm) (fun q_ => q_.1) (fun q_ => (q_.1 ≤ k) ∧ (∀ j_, j_ < q_.1 → q_.2.1 j_ = ((L_.getD j_ 0 : Nat) : Int)) ∧ (∀ j_, q_.1 < j_ → j_ ≤ k → q_.2.1 j_ = ((L_.getD (j_ - 1) 0 : Nat) : Int)) ∧ (∀ j_, q_.1 ≤ j_ → j_ < k → C_.getD k 0 < L_.getD j_ 0) ∧ (MA tys q_.2.2 m a (va_up f 25 q_.2.1) v0 v1 v2 ((nl : Int)) v4 v5 v6 v7 v8 v9)) (fun q_ => [(0, .ref m), (1, .int (iI ((w : Int)))), (2, .int (iI ((n : Int)))), (3, .int (iI ((k : Int)))), (4, .int (iI ((q_.1 : Int))))]) (fun q_ => q_.2.2) ?_ (k, g5, Mw) (⟨Nat.le_refl _, hg5, (fun j_ h1_ h2_ => by omega), (fun j_ h1_ h2_ => by omega), hMw⟩))
    intro x_ hI ih10
    obtain ⟨r, g, Mv⟩ := x_
    try dsimp only at hI ih10 ⊢
    obtain ⟨hr0, hr1, hr2, hr3, hMv⟩ := hI
    refine g_iload C d_Mo_isTour_10 4 rfl ?_
    refine g_if_le C 55 d_Mo_isTour_12 rfl (by omega) (fun c22 => ?_) (fun c22 => ?_)
    · refine g_aload_n C d_Mo_isTour_55 0 rfl ?_
      refine g_get C f_Mo_89 hMv.1 rfl d_Mo_isTour_56 ?_
      refine g_iload C d_Mo_isTour_59 4 rfl ?_
      refine g_aload_n C d_Mo_isTour_61 0 rfl ?_
      refine g_get C f_Mo_86 hMv.1 rfl d_Mo_isTour_62 ?_
      refine g_iload_n C d_Mo_isTour_65 3 rfl ?_
      refine g_ialdN C 0 hT0 (show Mv (a 24) = some (aI tys 7 (f 24)) from hMv.2.1 24 (by decide)) k (by omega) (by omega) d_Mo_isTour_66 ?_
      rw [hg24 k (by omega)]
      refine g_iastN C 0 hT0 (show Mv (a 25) = some (aI tys 7 g) from hMv.2.1 25 (by decide)) r (by omega) (by omega) d_Mo_isTour_67 ?_ rfl
      refine g_abs (X := fun M_ => MA tys M_ m a (va_up (va_up f 25 g) 25 (va_up g r (((C_.getD k 0 : Nat) : Int)))) v0 v1 v2 ((nl : Int)) v4 v5 v6 v7 v8 v9) (MA_F hMv 25 (by decide) (va_up g r (((C_.getD k 0 : Nat) : Int))) rfl) (fun M23 hM23 => ?_)
      refine g_iinc (lv' := [(3, .int (iI (((k : Int)) + 1))), (0, .ref m), (1, .int (iI ((w : Int)))), (2, .int (iI ((n : Int)))), (4, .int (iI ((r : Int))))]) C d_Mo_isTour_68 3 rfl (by decide) rfl ?_
      refine g_goto C 2 d_Mo_isTour_71 rfl ?_
      have hll : L_.length = k := by rw [hLp.length_eq, List.length_take]; omega
      have hMs2 : MA tys M23 m a (va_up f 25 (va_up g r (((C_.getD k 0 : Nat) : Int)))) v0 v1 v2 ((nl : Int)) v4 v5 v6 v7 v8 v9 := by have h_ := hM23; rw [bx_uu] at h_; exact h_
      have hgs2 : ∀ j_, j_ < k + 1 → (va_up g r (((C_.getD k 0 : Nat) : Int))) j_ = (((L_.take r ++ C_.getD k 0 :: L_.drop r).getD j_ 0 : Nat) : Int) := by
        intro j_ hj_
        rw [ins_getD L_ r _ j_ (by omega)]
        by_cases e_ : j_ = r
        · subst e_; rw [iu_s, if_neg (Nat.lt_irrefl _), if_pos rfl]
        · rw [iu_n e_]
          by_cases e2_ : j_ < r
          · rw [if_pos e2_]; exact hr1 j_ e2_
          · rw [if_neg e2_, if_neg e_]; exact hr2 j_ (by omega) (by omega)
      have hcn : C_.getD k 0 ∉ L_ := fun h_ => nin_tk hCn (show k < C_.length by omega) (hLp.mem_iff.mp h_)
      exact g_sub [1, 2, 3, 0] rfl (ih2 (k + 1, (L_.take r ++ C_.getD k 0 :: L_.drop r), (va_up g r (((C_.getD k 0 : Nat) : Int))), M23) ⟨(show k + 1 ≤ n by omega), (insP hLp (by omega)), (insL hLs hcn (by omega) (by omega) (fun j_ h1_ h2_ => hr3 j_ h1_ (by omega))), hgs2, hMs2⟩ (by first | omega | (dsimp only; omega)))
    · have hL1 := hLl (r - 1) (by omega)
      refine g_aload_n C d_Mo_isTour_15 0 rfl ?_
      refine g_get C f_Mo_89 hMv.1 rfl d_Mo_isTour_16 ?_
      refine g_iload C d_Mo_isTour_19 4 rfl ?_
      refine g_iconst C d_Mo_isTour_21 ?_
      refine g_isub C d_Mo_isTour_22 ?_
      refine g_ialdN C 0 hT0 (show Mv (a 25) = some (aI tys 7 g) from hMv.2.1 25 (by decide)) (r - 1) (by omega) (by omega) d_Mo_isTour_23 ?_
      rw [hr1 (r - 1) (by omega)]
      refine g_aload_n C d_Mo_isTour_24 0 rfl ?_
      refine g_get C f_Mo_86 hMv.1 rfl d_Mo_isTour_25 ?_
      refine g_iload_n C d_Mo_isTour_28 3 rfl ?_
      refine g_ialdN C 0 hT0 (show Mv (a 24) = some (aI tys 7 (f 24)) from hMv.2.1 24 (by decide)) k (by omega) (by omega) d_Mo_isTour_29 ?_
      rw [hg24 k (by omega)]
      refine g_icmp_le C 55 d_Mo_isTour_30 rfl (by omega) (fun c24 => ?_) (fun c24 => ?_)
      · refine g_aload_n C d_Mo_isTour_55 0 rfl ?_
        refine g_get C f_Mo_89 hMv.1 rfl d_Mo_isTour_56 ?_
        refine g_iload C d_Mo_isTour_59 4 rfl ?_
        refine g_aload_n C d_Mo_isTour_61 0 rfl ?_
        refine g_get C f_Mo_86 hMv.1 rfl d_Mo_isTour_62 ?_
        refine g_iload_n C d_Mo_isTour_65 3 rfl ?_
        refine g_ialdN C 0 hT0 (show Mv (a 24) = some (aI tys 7 (f 24)) from hMv.2.1 24 (by decide)) k (by omega) (by omega) d_Mo_isTour_66 ?_
        rw [hg24 k (by omega)]
        refine g_iastN C 0 hT0 (show Mv (a 25) = some (aI tys 7 g) from hMv.2.1 25 (by decide)) r (by omega) (by omega) d_Mo_isTour_67 ?_ rfl
        refine g_abs (X := fun M_ => MA tys M_ m a (va_up (va_up f 25 g) 25 (va_up g r (((C_.getD k 0 : Nat) : Int)))) v0 v1 v2 ((nl : Int)) v4 v5 v6 v7 v8 v9) (MA_F hMv 25 (by decide) (va_up g r (((C_.getD k 0 : Nat) : Int))) rfl) (fun M25 hM25 => ?_)
        refine g_iinc (lv' := [(3, .int (iI (((k : Int)) + 1))), (0, .ref m), (1, .int (iI ((w : Int)))), (2, .int (iI ((n : Int)))), (4, .int (iI ((r : Int))))]) C d_Mo_isTour_68 3 rfl (by decide) rfl ?_
        refine g_goto C 2 d_Mo_isTour_71 rfl ?_
        have hll : L_.length = k := by rw [hLp.length_eq, List.length_take]; omega
        have hMs2 : MA tys M25 m a (va_up f 25 (va_up g r (((C_.getD k 0 : Nat) : Int)))) v0 v1 v2 ((nl : Int)) v4 v5 v6 v7 v8 v9 := by have h_ := hM25; rw [bx_uu] at h_; exact h_
        have hgs2 : ∀ j_, j_ < k + 1 → (va_up g r (((C_.getD k 0 : Nat) : Int))) j_ = (((L_.take r ++ C_.getD k 0 :: L_.drop r).getD j_ 0 : Nat) : Int) := by
          intro j_ hj_
          rw [ins_getD L_ r _ j_ (by omega)]
          by_cases e_ : j_ = r
          · subst e_; rw [iu_s, if_neg (Nat.lt_irrefl _), if_pos rfl]
          · rw [iu_n e_]
            by_cases e2_ : j_ < r
            · rw [if_pos e2_]; exact hr1 j_ e2_
            · rw [if_neg e2_, if_neg e_]; exact hr2 j_ (by omega) (by omega)
        have hcn : C_.getD k 0 ∉ L_ := fun h_ => nin_tk hCn (show k < C_.length by omega) (hLp.mem_iff.mp h_)
        exact g_sub [1, 2, 3, 0] rfl (ih2 (k + 1, (L_.take r ++ C_.getD k 0 :: L_.drop r), (va_up g r (((C_.getD k 0 : Nat) : Int))), M25) ⟨(show k + 1 ≤ n by omega), (insP hLp (by omega)), (insL hLs hcn (by omega) (by omega) (fun j_ h1_ h2_ => hr3 j_ h1_ (by omega))), hgs2, hMs2⟩ (by first | omega | (dsimp only; omega)))
      · refine g_aload_n C d_Mo_isTour_33 0 rfl ?_
        refine g_get C f_Mo_89 hMv.1 rfl d_Mo_isTour_34 ?_
        refine g_iload C d_Mo_isTour_37 4 rfl ?_
        refine g_aload_n C d_Mo_isTour_39 0 rfl ?_
        refine g_get C f_Mo_89 hMv.1 rfl d_Mo_isTour_40 ?_
        refine g_iload C d_Mo_isTour_43 4 rfl ?_
        refine g_iconst C d_Mo_isTour_45 ?_
        refine g_isub C d_Mo_isTour_46 ?_
        refine g_ialdN C 0 hT0 (show Mv (a 25) = some (aI tys 7 g) from hMv.2.1 25 (by decide)) (r - 1) (by omega) (by omega) d_Mo_isTour_47 ?_
        rw [hr1 (r - 1) (by omega)]
        refine g_iastN C 0 hT0 (show Mv (a 25) = some (aI tys 7 g) from hMv.2.1 25 (by decide)) r (by omega) (by omega) d_Mo_isTour_48 ?_ rfl
        refine g_abs (X := fun M_ => MA tys M_ m a (va_up (va_up f 25 g) 25 (va_up g r (((L_.getD (r - 1) 0 : Nat) : Int)))) v0 v1 v2 ((nl : Int)) v4 v5 v6 v7 v8 v9) (MA_F hMv 25 (by decide) (va_up g r (((L_.getD (r - 1) 0 : Nat) : Int))) rfl) (fun M26 hM26 => ?_)
        refine g_iinc (lv' := [(4, .int (iI (((r : Int)) + (-1)))), (0, .ref m), (1, .int (iI ((w : Int)))), (2, .int (iI ((n : Int)))), (3, .int (iI ((k : Int))))]) C d_Mo_isTour_49 4 rfl (by decide) rfl ?_
        refine g_goto C 10 d_Mo_isTour_52 rfl ?_
        have hMs2 : MA tys M26 m a (va_up f 25 (va_up g r (((L_.getD (r - 1) 0 : Nat) : Int)))) v0 v1 v2 ((nl : Int)) v4 v5 v6 v7 v8 v9 := by have h_ := hM26; rw [bx_uu] at h_; exact h_
        have q1 : ∀ j_, j_ < r - 1 → (va_up g r (((L_.getD (r - 1) 0 : Nat) : Int))) j_ = ((L_.getD j_ 0 : Nat) : Int) := fun j_ hj_ => by rw [iu_n (by omega)]; exact hr1 j_ (by omega)
        have q2 : ∀ j_, r - 1 < j_ → j_ ≤ k → (va_up g r (((L_.getD (r - 1) 0 : Nat) : Int))) j_ = ((L_.getD (j_ - 1) 0 : Nat) : Int) := by
          intro j_ h1_ h2_
          by_cases e_ : j_ = r
          · subst e_; rw [iu_s]
          · rw [iu_n e_]; exact hr2 j_ (by omega) h2_
        have q3 : ∀ j_, r - 1 ≤ j_ → j_ < k → C_.getD k 0 < L_.getD j_ 0 := by
          intro j_ h1_ h2_
          by_cases e_ : j_ = r - 1
          · subst e_; omega
          · exact hr3 j_ (by omega) h2_
        rw [show ((r : Int)) + (-1) = ((r - 1 : Nat) : Int) by omega]
        exact g_sub [1, 2, 3, 4, 0] rfl (ih10 (r - 1, (va_up g r (((L_.getD (r - 1) 0 : Nat) : Int))), M26) ⟨(show r - 1 ≤ k by omega), q1, q2, q3, hMs2⟩ (by first | omega | (dsimp only; omega)))
