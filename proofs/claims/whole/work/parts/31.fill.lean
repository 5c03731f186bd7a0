/-! THE PLANNER fills a tour: written by program (wip/whole/gen/fill.py) -/
def cok (e : va_E) : Prop := match e with
  | .inr o => o.1 ≠ 2 ∧ o.1 ≠ 4
  | .inl _ => True
theorem PtA_up {M : Wm} {b a : Nat} {n : Int} {p t : Nat → Int} {e x : va_E} (h : PtA M b n p t) (ha : M a = some e) (hk : cok e) : PtA (va_up M a (some x)) b n p t := by
  obtain ⟨h1, h2, pa, h3, h4⟩ := h
  refine ⟨h1, h2, pa, (wd_up_n ?_).trans h3, (wd_up_n ?_).trans h4⟩
  · intro q
    rw [← q, h3] at ha
    cases ha
    exact hk.1 rfl
  · intro q
    rw [← q, h4] at ha
    cases ha
    exact hk.2 rfl
theorem PeA_up {M : Wm} {b a : Nat} {n : Int} {p u : Nat → Int} {e x : va_E} (h : PeA M b n p u) (ha : M a = some e) (hk : cok e) (hk3 : ∀ fs, e ≠ .inr (3, fs)) : PeA (va_up M a (some x)) b n p u := by
  obtain ⟨h1, h2, pa, h3, h4⟩ := h
  refine ⟨h1, h2, pa, (wd_up_n ?_).trans h3, (wd_up_n ?_).trans h4⟩
  · intro q
    rw [← q, h3] at ha
    cases ha
    exact hk3 _ rfl
  · intro q
    rw [← q, h4] at ha
    cases ha
    exact hk.2 rfl
theorem ChA_up {M : Wm} {n a : Nat} {gc : Nat → Option Nat} {cq : Nat → Nat} {pp tt : Nat → Nat → Int} {e x : va_E} (h : ChA M n gc cq pp tt) (ha : M a = some e) (hk : cok e) : ChA (va_up M a (some x)) n gc cq pp tt := by
  intro k hkn
  obtain ⟨h1, b, h2, h3⟩ := h k hkn
  exact ⟨h1, b, h2, PtA_up h3 ha hk⟩
set_option maxHeartbeats 4000000 in
set_option maxRecDepth 100000 in
theorem ct_Pn_fill (l : Launch) (D : va_G) (tys : xK) (A : Nat → Prop) (M : Wm) (hT : tyOK tys) (a ca ga ra n : Nat) (L T : Nat → Int) (gc : Nat → Option Nat) (cq : Nat → Nat) (pp tt : Nat → Nat → Int) (hn : n ≤ 7) (hL : inB L) (hTb : inB T) (m : Nat) (hm : m ≤ n) (hpn : M a = some (.inr (5, [.ref ca, .ref ga, .ref ra, .int (iI ((n : Int)))]))) (hga : M ga = some (aI tys 64 L)) (hra : M ra = some (aI tys 1024 T)) (hca : M ca = some (aR tys 4 7 gc)) (hch : ChA M n gc cq pp tt) (to oa : Nat) (go : Option Nat) (dy dn wk wo : Int) (so : Nat → Option Nat) (hto : M to = some (.inr (6, [.ref oa, va_rf go, .int (iI dy), .int (iI 0), .int (iI dn), .int (iI wk), .int (iI wo)]))) (hoa : M oa = some (aR tys 4 20 so)) (hco : ca ≠ oa) (hw : ∀ k, k < m → ¬ sStep L T (fun k_ => ((cq k_ : Nat) : Int)) n m k = -1) : mT l y_Pn_fill b_Pn_fill 6 none { frames := 2, cells := 0, slots := 0, locals := 47 } D tys A [.ref a, .ref to, .int (iI ((m : Int)))] M (qV D A (fun M' => ∃ so2 : Nat → Option Nat, (∀ k, k < m → so2 k = gc (sStep L T (fun k_ => ((cq k_ : Nat) : Int)) n m k).toNat) ∧ M' = va_up (va_up M oa (some (.inl (tc tys 4, 20, .inr (.inr (.inr (.inr so2))))))) to (some (.inr (6, [.ref oa, va_rf go, .int (iI dy), .int (iI ((m : Int))), .int (iI dn), .int (iI (T ((2 ^ m - 1) * 8 + 7))), .int (iI (wo + sSum (fun k_ => tt (cq (sStep L T (fun k_ => ((cq k_ : Nat) : Int)) n m k_).toNat) 4) m))]))))) 0 0 := by
  refine met_of (own := R_Pn) (lv := [(0, .ref a), (1, .ref to), (2, .int (iI ((m : Int))))]) rfl (by decide) (Nat.le_of_ble_eq_true rfl) rfl ?_
  intro p_ e_ s_ m_ bl_ me_ c_ C hr hin
  have hT9 := hT
  obtain ⟨hT0, -, -, -, hT4, -⟩ := hT
  refine g_iload_n C d_Pn_fill_0 2 rfl ?_
  refine g_calliP C (run_S C [.int (iI ((m : Int)))] k_Pn_60 (ct_Pn_firstOnes l D tys A M m (by omega)) ⟨rfl, rfl, Nat.le_of_ble_eq_true rfl, Nat.le_of_ble_eq_true rfl⟩ rfl rfl (Nat.le_of_ble_eq_true rfl) d_Pn_fill_1 ⟨Nat.le_of_ble_eq_true rfl, Nat.le_of_ble_eq_true rfl⟩) (fun z1 hz1 => ?_)
  refine g_istore_n (lv' := [(3, .int (iI z1)), (0, .ref a), (1, .ref to), (2, .int (iI ((m : Int))))]) C d_Pn_fill_4 (by decide) rfl ?_
  have hpm := pw_b (k := m) (by omega)
  rw [show z1 = ((2 ^ m - 1 : Nat) : Int) by omega]
  refine g_aload_n C d_Pn_fill_5 1 rfl ?_
  refine g_bipush C d_Pn_fill_6 (by decide) ?_
  refine g_iload_n C d_Pn_fill_8 0 rfl ?_
  refine g_calliP C (run_V C [.int (iI 7), .int (iI (((2 ^ m - 1 : Nat) : Int)))] k_Pn_70 (ct_Pn_nextNode l D tys A M hT9 a ca ga ra n L T gc cq pp tt hn hL hTb 7 ((2 ^ m - 1 : Nat)) (by omega) (by omega) hpn hga hra hca hch) hpn ⟨rfl, rfl, Nat.le_of_ble_eq_true rfl, Nat.le_of_ble_eq_true rfl⟩ rfl rfl (Nat.le_of_ble_eq_true rfl) d_Pn_fill_9 ⟨Nat.le_of_ble_eq_true rfl, Nat.le_of_ble_eq_true rfl⟩) (fun z2 hz2 => ?_)
  refine g_istore (lv' := [(4, .int (iI z2)), (3, .int (iI (((2 ^ m - 1 : Nat) : Int)))), (0, .ref a), (1, .ref to), (2, .int (iI ((m : Int))))]) C d_Pn_fill_12 (by decide) rfl ?_
  refine g_iconst C d_Pn_fill_14 ?_
  refine g_istore (lv' := [(5, .int (iI 0)), (4, .int (iI z2)), (3, .int (iI (((2 ^ m - 1 : Nat) : Int)))), (0, .ref a), (1, .ref to), (2, .int (iI ((m : Int))))]) C d_Pn_fill_15 (by decide) rfl ?_
  refine g_world (M' := va_up (va_up M oa (some (aR tys 4 20 so))) to (some (.inr (6, [.ref oa, va_rf go, .int (iI dy), .int (iI (((0 : Nat) : Int))), .int (iI dn), .int (iI wk), .int (iI (wo + sSum (fun k_ => tt (cq (sStep L T (fun k_ => ((cq k_ : Nat) : Int)) n m k_).toNat) 4) 0))])))) (by rw [up_same hoa, show wo + sSum (fun k_ => tt (cq (sStep L T (fun k_ => ((cq k_ : Nat) : Int)) n m k_).toNat) 4) 0 = wo by unfold sSum; omega]; exact (up_same hto).symm) ?_
  refine g_toX ?_
  refine g_sub [3, 4, 5, 2, 1, 0] rfl (g_loop (σ := Nat × Nat × Nat × Int × (Nat → Option Nat)) (fun x => m - x.1) (fun x => (x.1 ≤ m) ∧ (sSv L T (fun k_ => ((cq k_ : Nat) : Int)) n m x.1 = (x.2.1, x.2.2.1)) ∧ (x.2.2.2.1 = sNx L T (fun k_ => ((cq k_ : Nat) : Int)) x.2.1 x.2.2.1 n) ∧ (∀ j_, j_ < x.1 → x.2.2.2.2 j_ = gc (sStep L T (fun k_ => ((cq k_ : Nat) : Int)) n m j_).toNat)) (fun x => [(0, .ref a), (1, .ref to), (2, .int (iI ((m : Int)))), (3, .int (iI ((x.2.1 : Int)))), (4, .int (iI x.2.2.2.1)), (5, .int (iI ((x.1 : Int))))]) (fun x => (va_up (va_up M oa (some (.inl (tc tys 4, 20, .inr (.inr (.inr (.inr x.2.2.2.2))))))) to (some (.inr (6, [.ref oa, va_rf go, .int (iI dy), .int (iI ((x.1 : Int))), .int (iI dn), .int (iI wk), .int (iI (wo + sSum (fun k_ => tt (cq (sStep L T (fun k_ => ((cq k_ : Nat) : Int)) n m k_).toNat) 4) x.1))]))))) ?_ (0, 2 ^ m - 1, 7, z2, so) (⟨Nat.zero_le _, rfl, hz2, lt_0⟩))
  intro x_ hI ih17
  obtain ⟨k, S, v, nd, sO⟩ := x_
  try dsimp only at hI ih17 ⊢
  obtain ⟨hk0, hSv, hnd, hsO⟩ := hI
  have hSb := sSv_b (L := L) (T := T) (num := (fun k_ => ((cq k_ : Nat) : Int))) (n := n) (m := m) hn hm k
  rw [hSv] at hSb
  dsimp only at hSb
  have hxb := sNx_b (L := L) (T := T) (num := (fun k_ => ((cq k_ : Nat) : Int))) (S := S) (v := v) n
  refine g_iload C d_Pn_fill_17 5 rfl ?_
  refine g_iload_n C d_Pn_fill_19 2 rfl ?_
  refine g_icmp_ge C 65 d_Pn_fill_20 rfl (by omega) (fun c3 => ?_) (fun c3 => ?_)
  · refine g_aload_n C d_Pn_fill_65 1 rfl ?_
    refine g_aload_n C d_Pn_fill_66 0 rfl ?_
    refine g_iload_n C d_Pn_fill_67 2 rfl ?_
    refine g_calliP C (run_V C [.int (iI ((m : Int)))] k_Pn_67 (ct_Pn_leastWalks l D tys A (va_up (va_up M oa (some (.inl (tc tys 4, 20, .inr (.inr (.inr (.inr sO))))))) to (some (.inr (6, [.ref oa, va_rf go, .int (iI dy), .int (iI ((k : Int))), .int (iI dn), .int (iI wk), .int (iI (wo + sSum (fun k_ => tt (cq (sStep L T (fun k_ => ((cq k_ : Nat) : Int)) n m k_).toNat) 4) k))])))) hT9 a ca ga ra n L T hn hL hTb m (by omega) ((wd_up_n (ne_oo hpn hto (by decide))).trans ((wd_up_n (ne_oa hpn hoa)).trans hpn)) ((wd_up_n (Ne.symm (ne_oa hto hga))).trans ((wd_up_n (ne_ia hga hoa)).trans hga)) ((wd_up_n (Ne.symm (ne_oa hto hra))).trans ((wd_up_n (ne_ia hra hoa)).trans hra))) ((wd_up_n (ne_oo hpn hto (by decide))).trans ((wd_up_n (ne_oa hpn hoa)).trans hpn)) ⟨rfl, rfl, Nat.le_of_ble_eq_true rfl, Nat.le_of_ble_eq_true rfl⟩ rfl rfl (Nat.le_of_ble_eq_true rfl) d_Pn_fill_68 ⟨Nat.le_of_ble_eq_true rfl, Nat.le_of_ble_eq_true rfl⟩) (fun z4 hz4 => ?_)
    have hbz4 := hTb ((2 ^ m - 1) * 8 + 7)
    refine g_put C p_Pn_79 wd_up_s rfl rfl (Nat.le_of_ble_eq_true rfl) (fs' := [.ref oa, va_rf go, .int (iI dy), .int (iI ((k : Int))), .int (iI dn), .int (iI z4), .int (iI (wo + sSum (fun k_ => tt (cq (sStep L T (fun k_ => ((cq k_ : Nat) : Int)) n m k_).toNat) 4) k))]) rfl d_Pn_fill_71 ?_
    refine g_world (bx_uu _ _ _ _) ?_
    have eK : k = m := by omega
    have eZ := hz4
    exact g_vret C hr d_Pn_fill_74 ⟨sO, eK ▸ hsO, by rw [eZ, eK]⟩
  · refine g_iload C d_Pn_fill_23 4 rfl ?_
    refine g_iconst C d_Pn_fill_25 ?_
    refine g_icmp_eq C 65 d_Pn_fill_26 rfl (by omega) (fun c5 => ?_) (fun c5 => ?_)
    · exact absurd (show sStep L T (fun k_ => ((cq k_ : Nat) : Int)) n m k = -1 by unfold sStep; rw [hSv]; show sNx L T (fun k_ => ((cq k_ : Nat) : Int)) S v n = -1; omega) (hw k (by omega))
    · obtain ⟨w, rfl⟩ : ∃ w : Nat, nd = (w : Int) := ⟨nd.toNat, by omega⟩
      have hwn : w < n := by omega
      have hbw : nb S w = 1 := by have h9 := hxb.2.2 (by omega); rwa [← hnd, show ((w : Nat) : Int).toNat = w by omega] at h9
      have hle := nb_le hbw
      have hpw := pw_b (k := w) (by omega)
      obtain ⟨h401, b1, hs1, hpk1, htk1, pa1, hb1, hpa1⟩ := hch w (by omega)
      have htk91 := htk1
      unfold okT at htk91
      have hstk : sStep L T (fun k_ => ((cq k_ : Nat) : Int)) n m k = (w : Int) := by unfold sStep; rw [hSv]; exact hnd.symm
      have hel9 : ∀ k_, k_ < k → ∃ b_ fs_, sO k_ = some b_ ∧ (va_up (va_up M oa (some (.inl (tc tys 4, 20, .inr (.inr (.inr (.inr sO))))))) to (some (.inr (6, [.ref oa, va_rf go, .int (iI dy), .int (iI ((k : Int))), .int (iI dn), .int (iI wk), .int (iI (wo + sSum (fun k_ => tt (cq (sStep L T (fun k_ => ((cq k_ : Nat) : Int)) n m k_).toNat) 4) k))])))) b_ = some (.inr (2, fs_)) := by
        intro k_ hk_
        have hx9 := sNx_b (L := L) (T := T) (num := (fun k_ => ((cq k_ : Nat) : Int))) (S := (sSv L T (fun k_ => ((cq k_ : Nat) : Int)) n m k_).1) (v := (sSv L T (fun k_ => ((cq k_ : Nat) : Int)) n m k_).2) n
        have hw9 := hw k_ (by omega)
        obtain ⟨-, b_, hg_, -, -, pa_, hb_, -⟩ := hch (sStep L T (fun k_ => ((cq k_ : Nat) : Int)) n m k_).toNat (by unfold sStep at hw9 ⊢; omega)
        exact ⟨b_, _, (hsO k_ hk_).trans hg_, (wd_up_n (ne_oo hb_ hto (by decide))).trans ((wd_up_n (ne_oa hb_ hoa)).trans hb_)⟩
      refine g_aload_n C d_Pn_fill_29 1 rfl ?_
      refine g_aload_n C d_Pn_fill_30 0 rfl ?_
      refine g_get C f_Pn_13 ((wd_up_n (ne_oo hpn hto (by decide))).trans ((wd_up_n (ne_oa hpn hoa)).trans hpn)) rfl d_Pn_fill_31 ?_
      refine g_iload C d_Pn_fill_34 4 rfl ?_
      refine g_aald C 4 hT4 ((wd_up_n (Ne.symm (ne_oa hto hca))).trans ((wd_up_n hco).trans hca)) (by omega) (by rw [show ((w : Nat) : Int).toNat = w by omega]; exact hs1) d_Pn_fill_36 ?_
      refine g_iload C d_Pn_fill_37 5 rfl ?_
      refine g_iconst C d_Pn_fill_39 ?_
      refine g_callv C (run_V C [.ref b1, .int (iI ((k : Int))), .int (iI 0)] k_Pn_73 (ct_To_insert l D tys A (va_up (va_up M oa (some (.inl (tc tys 4, 20, .inr (.inr (.inr (.inr sO))))))) to (some (.inr (6, [.ref oa, va_rf go, .int (iI dy), .int (iI ((k : Int))), .int (iI dn), .int (iI wk), .int (iI (wo + sSum (fun k_ => tt (cq (sStep L T (fun k_ => ((cq k_ : Nat) : Int)) n m k_).toNat) 4) k))])))) hT9 to oa go dy k dn wk (wo + sSum (fun k_ => tt (cq (sStep L T (fun k_ => ((cq k_ : Nat) : Int)) n m k_).toNat) 4) k) sO k 0 b1 ((cq w : Nat) : Int) pa1 (tt (cq w)) (by omega) wd_up_s ((wd_up_n (Ne.symm (ne_oa hto hoa))).trans wd_up_s) hel9 ((wd_up_n (ne_oo hb1 hto (by decide))).trans ((wd_up_n (ne_oa hb1 hoa)).trans hb1))) wd_up_s ⟨rfl, rfl, Nat.le_of_ble_eq_true rfl, Nat.le_of_ble_eq_true rfl⟩ rfl rfl (Nat.le_of_ble_eq_true rfl) d_Pn_fill_40 ⟨Nat.le_of_ble_eq_true rfl, Nat.le_of_ble_eq_true rfl⟩) (fun M6 hM6 => ?_)
      obtain ⟨so2, hso2, rfl⟩ := hM6
      refine g_world (up4 (Ne.symm (ne_oa hto hoa))) ?_
      refine g_iload_n C d_Pn_fill_43 3 rfl ?_
      refine g_iconst C d_Pn_fill_44 ?_
      refine g_iload C d_Pn_fill_45 4 rfl ?_
      refine g_ishl C ((2 ^ ((w : Int)).toNat : Nat) : Int) (shl_i (by omega)) d_Pn_fill_47 ?_
      refine g_isub C d_Pn_fill_48 ?_
      rw [show (S : Int) - ((2 ^ (w : Int).toNat : Nat) : Int) = ((S - 2 ^ w : Nat) : Int) by rw [show (w : Int).toNat = w by omega]; omega]
      refine g_istore_n (lv' := [(3, .int (iI (((S - 2 ^ w : Nat) : Int)))), (0, .ref a), (1, .ref to), (2, .int (iI ((m : Int)))), (4, .int (iI ((w : Int)))), (5, .int (iI ((k : Int))))]) C d_Pn_fill_49 (by decide) rfl ?_
      refine g_aload_n C d_Pn_fill_50 1 rfl ?_
      refine g_iload C d_Pn_fill_51 4 rfl ?_
      refine g_iload_n C d_Pn_fill_53 0 rfl ?_
      refine g_calliP C (run_V C [.int (iI ((w : Int))), .int (iI (((S - 2 ^ w : Nat) : Int)))] k_Pn_70 (ct_Pn_nextNode l D tys A (va_up (va_up M oa (some (.inl (tc tys 4, 20, .inr (.inr (.inr (.inr so2))))))) to (some (.inr (6, [.ref oa, va_rf go, .int (iI dy), .int (iI ((k : Int) + 1)), .int (iI dn), .int (iI (wk + 0)), .int (iI (wo + sSum (fun k_ => tt (cq (sStep L T (fun k_ => ((cq k_ : Nat) : Int)) n m k_).toNat) 4) k + tt (cq w) 4))])))) hT9 a ca ga ra n L T gc cq pp tt hn hL hTb w ((S - 2 ^ w : Nat)) (by omega) (by omega) ((wd_up_n (ne_oo hpn hto (by decide))).trans ((wd_up_n (ne_oa hpn hoa)).trans hpn)) ((wd_up_n (Ne.symm (ne_oa hto hga))).trans ((wd_up_n (ne_ia hga hoa)).trans hga)) ((wd_up_n (Ne.symm (ne_oa hto hra))).trans ((wd_up_n (ne_ia hra hoa)).trans hra)) ((wd_up_n (Ne.symm (ne_oa hto hca))).trans ((wd_up_n hco).trans hca)) (ChA_up (ChA_up hch hoa trivial) ((wd_up_n (ne_oa hto hoa)).trans hto) ⟨by show (6 : Nat) ≠ 2; decide, by show (6 : Nat) ≠ 4; decide⟩)) ((wd_up_n (ne_oo hpn hto (by decide))).trans ((wd_up_n (ne_oa hpn hoa)).trans hpn)) ⟨rfl, rfl, Nat.le_of_ble_eq_true rfl, Nat.le_of_ble_eq_true rfl⟩ rfl rfl (Nat.le_of_ble_eq_true rfl) d_Pn_fill_54 ⟨Nat.le_of_ble_eq_true rfl, Nat.le_of_ble_eq_true rfl⟩) (fun z7 hz7 => ?_)
      refine g_istore (lv' := [(4, .int (iI z7)), (3, .int (iI (((S - 2 ^ w : Nat) : Int)))), (0, .ref a), (1, .ref to), (2, .int (iI ((m : Int)))), (5, .int (iI ((k : Int))))]) C d_Pn_fill_57 (by decide) rfl ?_
      refine g_iinc (lv' := [(5, .int (iI (((k : Int)) + 1))), (4, .int (iI z7)), (3, .int (iI (((S - 2 ^ w : Nat) : Int)))), (0, .ref a), (1, .ref to), (2, .int (iI ((m : Int))))]) C d_Pn_fill_59 5 rfl (by decide) rfl ?_
      refine g_goto C 17 d_Pn_fill_62 rfl ?_
      have hq1 : ∀ j_, j_ < k + 1 → so2 j_ = gc (sStep L T (fun k_ => ((cq k_ : Nat) : Int)) n m j_).toNat := lt_s (fun j hj => by rw [hso2 j, if_pos hj]; exact hsO j hj) (by rw [hso2 k, if_neg (by omega), if_pos rfl, hstk, show ((w : Nat) : Int).toNat = w by omega]; exact hs1.symm)
      refine g_world (M' := va_up (va_up M oa (some (aR tys 4 20 so2))) to (some (.inr (6, [.ref oa, va_rf go, .int (iI dy), .int (iI (((k + 1 : Nat) : Int))), .int (iI dn), .int (iI wk), .int (iI (wo + sSum (fun k_ => tt (cq (sStep L T (fun k_ => ((cq k_ : Nat) : Int)) n m k_).toNat) 4) (k + 1)))])))) (by rw [show wk + 0 = wk by omega, show wo + sSum (fun k_ => tt (cq (sStep L T (fun k_ => ((cq k_ : Nat) : Int)) n m k_).toNat) 4) k + tt (cq w) 4 = wo + sSum (fun k_ => tt (cq (sStep L T (fun k_ => ((cq k_ : Nat) : Int)) n m k_).toNat) 4) (k + 1) by rw [sSum.eq_2, hstk]; show _ = wo + (_ + tt (cq (w : Int).toNat) 4); rw [show ((w : Nat) : Int).toNat = w by omega]; omega]; rfl) ?_
      exact g_sub [3, 4, 5, 2, 1, 0] rfl (ih17 (k + 1, S - 2 ^ w, w, z7, so2) ⟨by omega, by rw [sSv.eq_2, hSv]; dsimp only; rw [← hnd, show ((w : Nat) : Int).toNat = w by omega], hz7, hq1⟩ (by first | omega | (dsimp only; omega)))
