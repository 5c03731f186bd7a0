/-! THE MODEL, told, fine, late: written by program (wip/whole/gen/mo5.py) -/
set_option maxHeartbeats 4000000 in
set_option maxRecDepth 100000 in
theorem ct_Mo_told (l : Launch) (D : va_G) (tys : xK) (A : Nat → Prop) (M : Wm) (hT : tyOK tys) (m : Nat) (s : AS) (th : Int) (np nl nt ns : Nat) (hS : okS s np nl nt ns) (hTk : TOK s nl nt ns) (z1_ : Int) (hz1 : (-2147483648 ≤ z1_ ∧ z1_ < 2147483648))  (hRM : RM tys M m s th) : mT l y_Mo_told b_Mo_told 4 (some .int) { frames := 3, cells := 0, slots := 0, locals := 77 } D tys A [.ref m, .int (iI z1_)] M (qI D A (fun z M' => ((0 ≤ z1_ ∧ z1_ ≤ 4) ∧ ((z1_ = 0 ∧ z = s 0 0 7) ∨ (z1_ = 1 ∧ z = s 0 0 9) ∨ (z1_ = 2 ∧ z = s 0 0 10) ∨ (z1_ = 3 ∧ z = s 0 0 8) ∨ (z1_ = 4 ∧ z = s 0 0 5)) ∧ RM tys M' m s 0) ∨ (¬ (0 ≤ z1_ ∧ z1_ ≤ 4) ∧ RM tys M' m s 1))) 0 0 := by
  refine met_of (own := R_Mo) (lv := [(0, .ref m), (1, .int (iI z1_))]) rfl (by decide) (Nat.le_of_ble_eq_true rfl) rfl ?_
  intro p_ e_ s_ m_ bl_ me_ c_ C hr hin
  have hT9 := hT
  obtain ⟨hT0, hT1, hT2, hT3, hT4, hT5, hT32, hT42, hT52, hT43, hT53, hT54⟩ := hT
  obtain ⟨a, f, v7, v8, v9, hM, hr9, ht9⟩ := RM_to hS hRM
  have hwho : -1 ≤ s 0 0 5 ∧ s 0 0 5 < (ns : Int) := by
    rcases hTk with ⟨h_, -⟩ | ⟨w_, cn_, dn_, h1_, h2_, -⟩ <;> omega
  obtain ⟨hv8, hv9, hvt⟩ := id ht9
  have hS0 := hS
  obtain ⟨⟨e1, e2, e3, e4⟩, ⟨b1_, b2_, b3_, b4_⟩, b5_, okp, oklf, okt, oku, oksp, okg, oku6⟩ := hS
  obtain ⟨rp, rl, rt, rz, re, rs⟩ := id hr9
  rcases hTk with ⟨hA5, hA7, hA8, hA9, hA10⟩ | ⟨w, cn, dn, hw5, hwn, hc7, hc8, hcd, h6, hlegs, hc9, hc10, hso⟩
  · have hcA := hA5
    refine g_aload_n C d_Mo_told_0 0 rfl ?_
    refine g_iload_n C d_Mo_told_1 1 rfl ?_
    refine g_iconst C d_Mo_told_2 ?_
    refine g_iconst C d_Mo_told_3 ?_
    refine g_calliP C (run_S C [.int (iI z1_), .int (iI 0), .int (iI 4)] k_Mo_101 (ct_Mo_in l D tys A M z1_ 0 4 (by omega)) ⟨rfl, rfl, Nat.le_of_ble_eq_true rfl, Nat.le_of_ble_eq_true rfl⟩ rfl rfl (Nat.le_of_ble_eq_true rfl) d_Mo_told_4 ⟨Nat.le_of_ble_eq_true rfl, Nat.le_of_ble_eq_true rfl⟩) (fun z1 hz1 => ?_)
    refine g_if_eq C 14 d_Mo_told_7 rfl (by omega) (fun c2 => ?_) (fun c2 => ?_)
    · refine g_iconst C d_Mo_told_14 ?_
      refine g_put C p_Mo_98 hM.1 rfl rfl (Nat.le_of_ble_eq_true rfl) (fs' := [.int (iI 1), .int (iI (s 0 0 0)), .int (iI ((np : Int))), .ref (a 0), .ref (a 1), .ref (a 2), .int (iI ((nl : Int))), .ref (a 3), .ref (a 4), .ref (a 5), .ref (a 6), .ref (a 7), .ref (a 8), .int (iI ((nt : Int))), .ref (a 9), .ref (a 10), .ref (a 11), .ref (a 12), .ref (a 13), .ref (a 14), .ref (a 15), .ref (a 16), .ref (a 17), .ref (a 18), .int (iI ((ns : Int))), .ref (a 19), .ref (a 20), .ref (a 21), .ref (a 22), .int (iI (s 0 0 5)), .int (iI v7), .int (iI v8), .int (iI v9), .ref (a 23), .ref (a 24), .ref (a 25), .ref (a 26)]) rfl d_Mo_told_15 ?_
      refine g_abs (X := fun M_ => MA tys M_ m a f 1 (s 0 0 0) ((np : Int)) ((nl : Int)) ((nt : Int)) ((ns : Int)) (s 0 0 5) v7 v8 v9) (MA_V hM 1 (s 0 0 0) ((np : Int)) ((nl : Int)) ((nt : Int)) ((ns : Int)) (s 0 0 5) v7 v8 v9) (fun M3 hM3 => ?_)
      refine g_aload_n C d_Mo_told_18 0 rfl ?_
      refine g_get C f_Mo_98 hM3.1 rfl d_Mo_told_19 ?_
      refine g_if_gt C 30 d_Mo_told_22 rfl (by omega) (fun c4 => ?_) (fun c4 => ?_)
      · refine g_aload_n C d_Mo_told_30 0 rfl ?_
        refine g_get C f_Mo_98 hM3.1 rfl d_Mo_told_31 ?_
        refine g_if_le C 41 d_Mo_told_34 rfl (by omega) (fun c5 => ?_) (fun c5 => ?_)
        · exact absurd c5 (by decide)
        · refine g_iconst C d_Mo_told_37 ?_
          refine g_goto C 45 d_Mo_told_38 rfl ?_
          exact g_iret C hr d_Mo_told_45 (Or.inr ⟨by omega, RM_of hM3 rfl e1.symm e2.symm e3.symm e4.symm rfl e1 e2 e3 e4 hr9 ht9⟩)
      · exact absurd c4 (by decide)
    · refine g_iconst C d_Mo_told_10 ?_
      refine g_goto C 15 d_Mo_told_11 rfl ?_
      refine g_put C p_Mo_98 hM.1 rfl rfl (Nat.le_of_ble_eq_true rfl) (fs' := [.int (iI 0), .int (iI (s 0 0 0)), .int (iI ((np : Int))), .ref (a 0), .ref (a 1), .ref (a 2), .int (iI ((nl : Int))), .ref (a 3), .ref (a 4), .ref (a 5), .ref (a 6), .ref (a 7), .ref (a 8), .int (iI ((nt : Int))), .ref (a 9), .ref (a 10), .ref (a 11), .ref (a 12), .ref (a 13), .ref (a 14), .ref (a 15), .ref (a 16), .ref (a 17), .ref (a 18), .int (iI ((ns : Int))), .ref (a 19), .ref (a 20), .ref (a 21), .ref (a 22), .int (iI (s 0 0 5)), .int (iI v7), .int (iI v8), .int (iI v9), .ref (a 23), .ref (a 24), .ref (a 25), .ref (a 26)]) rfl d_Mo_told_15 ?_
      refine g_abs (X := fun M_ => MA tys M_ m a f 0 (s 0 0 0) ((np : Int)) ((nl : Int)) ((nt : Int)) ((ns : Int)) (s 0 0 5) v7 v8 v9) (MA_V hM 0 (s 0 0 0) ((np : Int)) ((nl : Int)) ((nt : Int)) ((ns : Int)) (s 0 0 5) v7 v8 v9) (fun M6 hM6 => ?_)
      refine g_aload_n C d_Mo_told_18 0 rfl ?_
      refine g_get C f_Mo_98 hM6.1 rfl d_Mo_told_19 ?_
      refine g_if_gt C 30 d_Mo_told_22 rfl (by omega) (fun c7 => ?_) (fun c7 => ?_)
      · exact absurd c7 (by decide)
      · refine g_iload_n C d_Mo_told_25 1 rfl ?_
        refine g_iconst C d_Mo_told_26 ?_
        refine g_icmp_ne C 46 d_Mo_told_27 rfl (by omega) (fun c8 => ?_) (fun c8 => ?_)
        · refine g_aload_n C d_Mo_told_46 0 rfl ?_
          refine g_get C f_Mo_79 hM6.1 rfl d_Mo_told_47 ?_
          refine g_if_ge C 55 d_Mo_told_50 rfl (by omega) (fun c9 => ?_) (fun c9 => ?_)
          · exfalso; omega
          · refine g_iconst C d_Mo_told_53 ?_
            exact g_iret C hr d_Mo_told_54 (Or.inl ⟨by omega, by omega, RM_of hM6 rfl e1.symm e2.symm e3.symm e4.symm rfl e1 e2 e3 e4 hr9 ht9⟩)
        · refine g_aload_n C d_Mo_told_30 0 rfl ?_
          refine g_get C f_Mo_98 hM6.1 rfl d_Mo_told_31 ?_
          refine g_if_le C 41 d_Mo_told_34 rfl (by omega) (fun c10 => ?_) (fun c10 => ?_)
          · refine g_aload_n C d_Mo_told_41 0 rfl ?_
            refine g_get C f_Mo_79 hM6.1 rfl d_Mo_told_42 ?_
            exact g_iret C hr d_Mo_told_45 (Or.inl ⟨by omega, by omega, RM_of hM6 rfl e1.symm e2.symm e3.symm e4.symm rfl e1 e2 e3 e4 hr9 ht9⟩)
          · exact absurd c10 (by decide)
  · obtain ⟨rfl, rfl, rfl, h23⟩ := hvt (by omega)
    rw [hc7, hc8] at hM ht9
    rw [hc7] at hv8
    rw [hc8] at hv9
    have h23' : ∀ k_, k_ < cn → f 23 k_ = s 6 0 k_ := fun k_ hk_ => h23 k_ (by omega)
    refine g_aload_n C d_Mo_told_0 0 rfl ?_
    refine g_iload_n C d_Mo_told_1 1 rfl ?_
    refine g_iconst C d_Mo_told_2 ?_
    refine g_iconst C d_Mo_told_3 ?_
    refine g_calliP C (run_S C [.int (iI z1_), .int (iI 0), .int (iI 4)] k_Mo_101 (ct_Mo_in l D tys A M z1_ 0 4 (by omega)) ⟨rfl, rfl, Nat.le_of_ble_eq_true rfl, Nat.le_of_ble_eq_true rfl⟩ rfl rfl (Nat.le_of_ble_eq_true rfl) d_Mo_told_4 ⟨Nat.le_of_ble_eq_true rfl, Nat.le_of_ble_eq_true rfl⟩) (fun z11 hz11 => ?_)
    refine g_if_eq C 14 d_Mo_told_7 rfl (by omega) (fun c12 => ?_) (fun c12 => ?_)
    · refine g_iconst C d_Mo_told_14 ?_
      refine g_put C p_Mo_98 hM.1 rfl rfl (Nat.le_of_ble_eq_true rfl) (fs' := [.int (iI 1), .int (iI (s 0 0 0)), .int (iI ((np : Int))), .ref (a 0), .ref (a 1), .ref (a 2), .int (iI ((nl : Int))), .ref (a 3), .ref (a 4), .ref (a 5), .ref (a 6), .ref (a 7), .ref (a 8), .int (iI ((nt : Int))), .ref (a 9), .ref (a 10), .ref (a 11), .ref (a 12), .ref (a 13), .ref (a 14), .ref (a 15), .ref (a 16), .ref (a 17), .ref (a 18), .int (iI ((ns : Int))), .ref (a 19), .ref (a 20), .ref (a 21), .ref (a 22), .int (iI (s 0 0 5)), .int (iI (s 0 0 6)), .int (iI ((cn : Int))), .int (iI ((dn : Int))), .ref (a 23), .ref (a 24), .ref (a 25), .ref (a 26)]) rfl d_Mo_told_15 ?_
      refine g_abs (X := fun M_ => MA tys M_ m a f 1 (s 0 0 0) ((np : Int)) ((nl : Int)) ((nt : Int)) ((ns : Int)) (s 0 0 5) (s 0 0 6) ((cn : Int)) ((dn : Int))) (MA_V hM 1 (s 0 0 0) ((np : Int)) ((nl : Int)) ((nt : Int)) ((ns : Int)) (s 0 0 5) (s 0 0 6) ((cn : Int)) ((dn : Int))) (fun M13 hM13 => ?_)
      refine g_aload_n C d_Mo_told_18 0 rfl ?_
      refine g_get C f_Mo_98 hM13.1 rfl d_Mo_told_19 ?_
      refine g_if_gt C 30 d_Mo_told_22 rfl (by omega) (fun c14 => ?_) (fun c14 => ?_)
      · refine g_aload_n C d_Mo_told_30 0 rfl ?_
        refine g_get C f_Mo_98 hM13.1 rfl d_Mo_told_31 ?_
        refine g_if_le C 41 d_Mo_told_34 rfl (by omega) (fun c15 => ?_) (fun c15 => ?_)
        · exact absurd c15 (by decide)
        · refine g_iconst C d_Mo_told_37 ?_
          refine g_goto C 45 d_Mo_told_38 rfl ?_
          exact g_iret C hr d_Mo_told_45 (Or.inr ⟨by omega, RM_of hM13 rfl e1.symm e2.symm e3.symm e4.symm rfl e1 e2 e3 e4 hr9 ht9⟩)
      · exact absurd c14 (by decide)
    · refine g_iconst C d_Mo_told_10 ?_
      refine g_goto C 15 d_Mo_told_11 rfl ?_
      refine g_put C p_Mo_98 hM.1 rfl rfl (Nat.le_of_ble_eq_true rfl) (fs' := [.int (iI 0), .int (iI (s 0 0 0)), .int (iI ((np : Int))), .ref (a 0), .ref (a 1), .ref (a 2), .int (iI ((nl : Int))), .ref (a 3), .ref (a 4), .ref (a 5), .ref (a 6), .ref (a 7), .ref (a 8), .int (iI ((nt : Int))), .ref (a 9), .ref (a 10), .ref (a 11), .ref (a 12), .ref (a 13), .ref (a 14), .ref (a 15), .ref (a 16), .ref (a 17), .ref (a 18), .int (iI ((ns : Int))), .ref (a 19), .ref (a 20), .ref (a 21), .ref (a 22), .int (iI (s 0 0 5)), .int (iI (s 0 0 6)), .int (iI ((cn : Int))), .int (iI ((dn : Int))), .ref (a 23), .ref (a 24), .ref (a 25), .ref (a 26)]) rfl d_Mo_told_15 ?_
      refine g_abs (X := fun M_ => MA tys M_ m a f 0 (s 0 0 0) ((np : Int)) ((nl : Int)) ((nt : Int)) ((ns : Int)) (s 0 0 5) (s 0 0 6) ((cn : Int)) ((dn : Int))) (MA_V hM 0 (s 0 0 0) ((np : Int)) ((nl : Int)) ((nt : Int)) ((ns : Int)) (s 0 0 5) (s 0 0 6) ((cn : Int)) ((dn : Int))) (fun M16 hM16 => ?_)
      refine g_aload_n C d_Mo_told_18 0 rfl ?_
      refine g_get C f_Mo_98 hM16.1 rfl d_Mo_told_19 ?_
      refine g_if_gt C 30 d_Mo_told_22 rfl (by omega) (fun c17 => ?_) (fun c17 => ?_)
      · exact absurd c17 (by decide)
      · refine g_iload_n C d_Mo_told_25 1 rfl ?_
        refine g_iconst C d_Mo_told_26 ?_
        refine g_icmp_ne C 46 d_Mo_told_27 rfl (by omega) (fun c18 => ?_) (fun c18 => ?_)
        · refine g_aload_n C d_Mo_told_46 0 rfl ?_
          refine g_get C f_Mo_79 hM16.1 rfl d_Mo_told_47 ?_
          refine g_if_ge C 55 d_Mo_told_50 rfl (by omega) (fun c19 => ?_) (fun c19 => ?_)
          · refine g_iconst C d_Mo_told_55 ?_
            refine g_istore_n (lv' := [(2, .int (iI 0)), (0, .ref m), (1, .int (iI z1_))]) C d_Mo_told_56 (by decide) rfl ?_
            refine g_iconst C d_Mo_told_57 ?_
            refine g_istore_n (lv' := [(3, .int (iI 0)), (2, .int (iI 0)), (0, .ref m), (1, .int (iI z1_))]) C d_Mo_told_58 (by decide) rfl ?_
            refine g_sub [2, 3, 1, 0] rfl (g_loop (σ := Nat) (fun q_ => cn - q_) (fun q_ => (q_ ≤ cn)) (fun q_ => [(0, .ref m), (1, .int (iI z1_)), (2, .int (iI (sSum (fun k_ => s 3 (s 6 0 k_).toNat 4) q_))), (3, .int (iI ((q_ : Int))))]) (fun q_ => M16) ?_ (0) (Nat.zero_le _))
            intro x_ hI ih59
            obtain ⟨k, rfl⟩ : ∃ z, z = x_ := ⟨_, rfl⟩
            try dsimp only at hI ih59 ⊢
            have hk0 := hI
            refine g_iload_n C d_Mo_told_59 3 rfl ?_
            refine g_aload_n C d_Mo_told_60 0 rfl ?_
            refine g_get C f_Mo_147 hM16.1 rfl d_Mo_told_61 ?_
            refine g_icmp_ge C 87 d_Mo_told_64 rfl (by omega) (fun c20 => ?_) (fun c20 => ?_)
            · rw [show sSum (fun k_ => s 3 (s 6 0 k_).toNat 4) k = s 0 0 10 by rw [hc10, show k = cn by omega]]
              refine g_iload_n C d_Mo_told_87 1 rfl ?_
              refine g_if_ne C 98 d_Mo_told_88 rfl (by omega) (fun c21 => ?_) (fun c21 => ?_)
              · refine g_iload_n C d_Mo_told_98 1 rfl ?_
                refine g_iconst C d_Mo_told_99 ?_
                refine g_icmp_ne C 127 d_Mo_told_100 rfl (by omega) (fun c22 => ?_) (fun c22 => ?_)
                · refine g_iload_n C d_Mo_told_127 1 rfl ?_
                  refine g_iconst C d_Mo_told_128 ?_
                  refine g_icmp_ne C 136 d_Mo_told_129 rfl (by omega) (fun c23 => ?_) (fun c23 => ?_)
                  · refine g_aload_n C d_Mo_told_136 0 rfl ?_
                    refine g_get C f_Mo_150 hM16.1 rfl d_Mo_told_137 ?_
                    exact g_iret C hr d_Mo_told_140 (Or.inl ⟨by omega, by omega, RM_of hM16 rfl e1.symm e2.symm e3.symm e4.symm rfl e1 e2 e3 e4 hr9 ht9⟩)
                  · refine g_iload_n C d_Mo_told_132 2 rfl ?_
                    refine g_goto C 140 d_Mo_told_133 rfl ?_
                    exact g_iret C hr d_Mo_told_140 (Or.inl ⟨by omega, by omega, RM_of hM16 rfl e1.symm e2.symm e3.symm e4.symm rfl e1 e2 e3 e4 hr9 ht9⟩)
                · have hpw := re w (by omega)
                  have huw := oku w (by omega)
                  obtain ⟨h, hh⟩ : ∃ h : Nat, s 4 w 2 = (h : Int) := ⟨(s 4 w 2).toNat, by omega⟩
                  refine g_aload_n C d_Mo_told_103 0 rfl ?_
                  refine g_aload_n C d_Mo_told_104 0 rfl ?_
                  refine g_get C f_Mo_83 hM16.1 rfl d_Mo_told_105 ?_
                  refine g_aload_n C d_Mo_told_108 0 rfl ?_
                  refine g_get C f_Mo_147 hM16.1 rfl d_Mo_told_109 ?_
                  refine g_aload_n C d_Mo_told_112 0 rfl ?_
                  refine g_get C f_Mo_70 hM16.1 rfl d_Mo_told_113 ?_
                  refine g_aload_n C d_Mo_told_116 0 rfl ?_
                  refine g_get C f_Mo_79 hM16.1 rfl d_Mo_told_117 ?_
                  refine g_ialdN C 0 hT0 (show M16 (a 20) = some (aI tys 8 (f 20)) from hM16.2.1 20 (by decide)) w (by omega) (by omega) d_Mo_told_120 ?_
                  rw [hpw.2.1.trans hh]
                  refine g_calliP C (run_V C [.ref ((a 23)), .int (iI ((cn : Int))), .int (iI ((h : Int)))] k_Mo_153 (ct_Mo_walksOf l D tys A M16 hT9 m a f 0 (s 0 0 0) ((np : Int)) ((nt : Int)) ((ns : Int)) (s 0 0 5) (s 0 0 6) ((cn : Int)) ((dn : Int)) s np nl nt ns hS0 hr9 23 cn h (fun k_ => (s 6 0 k_).toNat) (by decide) ⟨by show cn ≤ 20; omega, by decide⟩ (by omega) (fun k_ hk_ => ⟨by rw [h23' k_ hk_]; have := hso k_ hk_; omega, by have := hso k_ hk_; show (s 6 0 k_).toNat < nt; omega⟩) hM16) hM16.1 ⟨rfl, rfl, Nat.le_of_ble_eq_true rfl, Nat.le_of_ble_eq_true rfl⟩ rfl rfl (Nat.le_of_ble_eq_true rfl) d_Mo_told_121 ⟨Nat.le_of_ble_eq_true rfl, Nat.le_of_ble_eq_true rfl⟩) (fun z24 hz24 => ?_)
                  have hp9 : ∀ k_, s 1 (hN s h cn (fun k_ => (s 6 0 k_).toNat) k_) = sPth s w cn k_ := fun k_ => (pth_hN hh k_).symm
                  obtain rfl : z24 = s 0 0 9 := by
                    rcases hz24 with ⟨-, h1_⟩ | ⟨⟨k_, h2_, h3_⟩, -⟩
                    · rw [h1_, hc9, sWs_lg]
                      exact sLg_cg (fun k_ _ => hp9 k_)
                    · rw [hp9, hp9] at h3_
                      exact absurd h3_ (hlegs k_ h2_)
                  refine g_goto C 140 d_Mo_told_124 rfl ?_
                  exact g_iret C hr d_Mo_told_140 (Or.inl ⟨by omega, by omega, RM_of hM16 rfl e1.symm e2.symm e3.symm e4.symm rfl e1 e2 e3 e4 hr9 ht9⟩)
              · refine g_aload_n C d_Mo_told_91 0 rfl ?_
                refine g_get C f_Mo_147 hM16.1 rfl d_Mo_told_92 ?_
                refine g_goto C 140 d_Mo_told_95 rfl ?_
                exact g_iret C hr d_Mo_told_140 (Or.inl ⟨by omega, by omega, RM_of hM16 rfl e1.symm e2.symm e3.symm e4.symm rfl e1 e2 e3 e4 hr9 ht9⟩)
            · obtain ⟨p, hp⟩ : ∃ p : Nat, s 6 0 k = (p : Int) := ⟨(s 6 0 k).toNat, by have := hso k (by omega); omega⟩
              have hpn := hso k (by omega)
              have htp := rt p (by omega)
              have htpo := (okt p (by omega)).1
              have htpu := htpo
              unfold okT at htpo
              have htp9 := (okt p (by omega)).2
              refine g_iload_n C d_Mo_told_67 2 rfl ?_
              refine g_aload_n C d_Mo_told_68 0 rfl ?_
              refine g_get C f_Mo_52 hM16.1 rfl d_Mo_told_69 ?_
              refine g_aload_n C d_Mo_told_72 0 rfl ?_
              refine g_get C f_Mo_83 hM16.1 rfl d_Mo_told_73 ?_
              refine g_iload_n C d_Mo_told_76 3 rfl ?_
              refine g_ialdN C 0 hT0 (show M16 (a 23) = some (aI tys 20 (f 23)) from hM16.2.1 23 (by decide)) k (by omega) (by omega) d_Mo_told_77 ?_
              rw [(h23' k (by omega)).trans hp]
              refine g_ialdN C 0 hT0 (show M16 (a 14) = some (aI tys 40 (f 14)) from hM16.2.1 14 (by decide)) p (by omega) (by omega) d_Mo_told_78 ?_
              rw [htp.2.2.2.2.2.1]
              refine g_iadd C d_Mo_told_79 ?_
              refine g_istore_n (lv' := [(2, .int (iI ((sSum (fun k_ => s 3 (s 6 0 k_).toNat 4) k) + (s 3 p 4)))), (0, .ref m), (1, .int (iI z1_)), (3, .int (iI ((k : Int))))]) C d_Mo_told_80 (by decide) rfl ?_
              refine g_iinc (lv' := [(3, .int (iI (((k : Int)) + 1))), (2, .int (iI ((sSum (fun k_ => s 3 (s 6 0 k_).toNat 4) k) + (s 3 p 4)))), (0, .ref m), (1, .int (iI z1_))]) C d_Mo_told_81 3 rfl (by decide) rfl ?_
              refine g_goto C 59 d_Mo_told_84 rfl ?_
              rw [show sSum (fun k_ => s 3 (s 6 0 k_).toNat 4) k + s 3 p 4 = sSum (fun k_ => s 3 (s 6 0 k_).toNat 4) (k + 1) by rw [sSum.eq_2, show (s 6 0 k).toNat = p by omega]]
              exact g_sub [2, 3, 1, 0] rfl (ih59 (k + 1) (by omega) (by first | omega | (dsimp only; omega)))
          · exfalso; omega
        · refine g_aload_n C d_Mo_told_30 0 rfl ?_
          refine g_get C f_Mo_98 hM16.1 rfl d_Mo_told_31 ?_
          refine g_if_le C 41 d_Mo_told_34 rfl (by omega) (fun c25 => ?_) (fun c25 => ?_)
          · refine g_aload_n C d_Mo_told_41 0 rfl ?_
            refine g_get C f_Mo_79 hM16.1 rfl d_Mo_told_42 ?_
            exact g_iret C hr d_Mo_told_45 (Or.inl ⟨by omega, by omega, RM_of hM16 rfl e1.symm e2.symm e3.symm e4.symm rfl e1 e2 e3 e4 hr9 ht9⟩)
          · exact absurd c25 (by decide)
set_option maxHeartbeats 4000000 in
set_option maxRecDepth 100000 in
theorem ct_Mo_fine (l : Launch) (D : va_G) (tys : xK) (A : Nat → Prop) (M : Wm) (hT : tyOK tys) (m : Nat) (s : AS) (th : Int) (np nl nt ns : Nat) (hS : okS s np nl nt ns) (hTk : TOK s nl nt ns) (z1_ z2_ : Int) (hz1 : (-2147483648 ≤ z1_ ∧ z1_ < 2147483648)) (hz2 : (-2147483648 ≤ z2_ ∧ z2_ < 2147483648))  (hRM : RM tys M m s th) : mT l y_Mo_fine b_Mo_fine 12 (some .int) { frames := 2, cells := 0, slots := 0, locals := 43 } D tys A [.ref m, .int (iI z1_), .int (iI z2_)] M (qI D A (fun z M' => (((0 ≤ z1_ ∧ z1_ < s 0 0 3) ∧ (0 ≤ z2_ ∧ z2_ ≤ 100000)) ∧ z = sFine (s 0 0 0) (z2_ - sDue (s 3 z1_.toNat)) ∧ RM tys M' m s 0) ∨ (¬ ((0 ≤ z1_ ∧ z1_ < s 0 0 3) ∧ (0 ≤ z2_ ∧ z2_ ≤ 100000)) ∧ RM tys M' m s 1))) 0 0 := by
  refine met_of (own := R_Mo) (lv := [(0, .ref m), (1, .int (iI z1_)), (2, .int (iI z2_))]) rfl (by decide) (Nat.le_of_ble_eq_true rfl) rfl ?_
  intro p_ e_ s_ m_ bl_ me_ c_ C hr hin
  have hT9 := hT
  obtain ⟨hT0, hT1, hT2, hT3, hT4, hT5, hT32, hT42, hT52, hT43, hT53, hT54⟩ := hT
  obtain ⟨a, f, v7, v8, v9, hM, hr9, ht9⟩ := RM_to hS hRM
  have hwho : -1 ≤ s 0 0 5 ∧ s 0 0 5 < (ns : Int) := by
    rcases hTk with ⟨h_, -⟩ | ⟨w_, cn_, dn_, h1_, h2_, -⟩ <;> omega
  obtain ⟨hv8, hv9, hvt⟩ := id ht9
  have hS0 := hS
  obtain ⟨⟨e1, e2, e3, e4⟩, ⟨b1_, b2_, b3_, b4_⟩, b5_, okp, oklf, okt, oku, oksp, okg, oku6⟩ := hS
  obtain ⟨rp, rl, rt, rz, re, rs⟩ := id hr9
  refine g_aload_n C d_Mo_fine_0 0 rfl ?_
  refine g_aload_n C d_Mo_fine_1 0 rfl ?_
  refine g_iload_n C d_Mo_fine_2 1 rfl ?_
  refine g_calliP C (run_V C [.int (iI z1_)] k_Mo_118 (ct_Mo_isPart l D tys A M hT9 m a f th (s 0 0 0) ((np : Int)) ((nl : Int)) ((ns : Int)) (s 0 0 5) v7 v8 v9 nt z1_ (by omega) (by omega) hM) hM.1 ⟨rfl, rfl, Nat.le_of_ble_eq_true rfl, Nat.le_of_ble_eq_true rfl⟩ rfl rfl (Nat.le_of_ble_eq_true rfl) d_Mo_fine_3 ⟨Nat.le_of_ble_eq_true rfl, Nat.le_of_ble_eq_true rfl⟩) (fun z1 hz1 => ?_)
  refine g_if_eq C 19 d_Mo_fine_6 rfl (by omega) (fun c2 => ?_) (fun c2 => ?_)
  · refine g_iconst C d_Mo_fine_19 ?_
    refine g_goto C 24 d_Mo_fine_20 rfl ?_
    refine g_put C p_Mo_98 hM.1 rfl rfl (Nat.le_of_ble_eq_true rfl) (fs' := [.int (iI 1), .int (iI (s 0 0 0)), .int (iI ((np : Int))), .ref (a 0), .ref (a 1), .ref (a 2), .int (iI ((nl : Int))), .ref (a 3), .ref (a 4), .ref (a 5), .ref (a 6), .ref (a 7), .ref (a 8), .int (iI ((nt : Int))), .ref (a 9), .ref (a 10), .ref (a 11), .ref (a 12), .ref (a 13), .ref (a 14), .ref (a 15), .ref (a 16), .ref (a 17), .ref (a 18), .int (iI ((ns : Int))), .ref (a 19), .ref (a 20), .ref (a 21), .ref (a 22), .int (iI (s 0 0 5)), .int (iI v7), .int (iI v8), .int (iI v9), .ref (a 23), .ref (a 24), .ref (a 25), .ref (a 26)]) rfl d_Mo_fine_24 ?_
    refine g_abs (X := fun M_ => MA tys M_ m a f 1 (s 0 0 0) ((np : Int)) ((nl : Int)) ((nt : Int)) ((ns : Int)) (s 0 0 5) v7 v8 v9) (MA_V hM 1 (s 0 0 0) ((np : Int)) ((nl : Int)) ((nt : Int)) ((ns : Int)) (s 0 0 5) v7 v8 v9) (fun M3 hM3 => ?_)
    refine g_aload_n C d_Mo_fine_27 0 rfl ?_
    refine g_get C f_Mo_98 hM3.1 rfl d_Mo_fine_28 ?_
    refine g_if_le C 36 d_Mo_fine_31 rfl (by omega) (fun c4 => ?_) (fun c4 => ?_)
    · exact absurd c4 (by decide)
    · refine g_iconst C d_Mo_fine_34 ?_
      exact g_iret C hr d_Mo_fine_35 (Or.inr ⟨by omega, RM_of hM3 rfl e1.symm e2.symm e3.symm e4.symm rfl e1 e2 e3 e4 hr9 ht9⟩)
  · refine g_iload_n C d_Mo_fine_9 2 rfl ?_
    refine g_iconst C d_Mo_fine_10 ?_
    refine g_ldc C 100000 q_Mo_114 d_Mo_fine_11 ?_
    refine g_calliP C (run_S C [.int (iI z2_), .int (iI 0), .int (iI 100000)] k_Mo_101 (ct_Mo_in l D tys A M z2_ 0 100000 (by omega)) ⟨rfl, rfl, Nat.le_of_ble_eq_true rfl, Nat.le_of_ble_eq_true rfl⟩ rfl rfl (Nat.le_of_ble_eq_true rfl) d_Mo_fine_13 ⟨Nat.le_of_ble_eq_true rfl, Nat.le_of_ble_eq_true rfl⟩) (fun z5 hz5 => ?_)
    refine g_if_ne C 23 d_Mo_fine_16 rfl (by omega) (fun c6 => ?_) (fun c6 => ?_)
    · refine g_iconst C d_Mo_fine_23 ?_
      refine g_put C p_Mo_98 hM.1 rfl rfl (Nat.le_of_ble_eq_true rfl) (fs' := [.int (iI 0), .int (iI (s 0 0 0)), .int (iI ((np : Int))), .ref (a 0), .ref (a 1), .ref (a 2), .int (iI ((nl : Int))), .ref (a 3), .ref (a 4), .ref (a 5), .ref (a 6), .ref (a 7), .ref (a 8), .int (iI ((nt : Int))), .ref (a 9), .ref (a 10), .ref (a 11), .ref (a 12), .ref (a 13), .ref (a 14), .ref (a 15), .ref (a 16), .ref (a 17), .ref (a 18), .int (iI ((ns : Int))), .ref (a 19), .ref (a 20), .ref (a 21), .ref (a 22), .int (iI (s 0 0 5)), .int (iI v7), .int (iI v8), .int (iI v9), .ref (a 23), .ref (a 24), .ref (a 25), .ref (a 26)]) rfl d_Mo_fine_24 ?_
      refine g_abs (X := fun M_ => MA tys M_ m a f 0 (s 0 0 0) ((np : Int)) ((nl : Int)) ((nt : Int)) ((ns : Int)) (s 0 0 5) v7 v8 v9) (MA_V hM 0 (s 0 0 0) ((np : Int)) ((nl : Int)) ((nt : Int)) ((ns : Int)) (s 0 0 5) v7 v8 v9) (fun M7 hM7 => ?_)
      refine g_aload_n C d_Mo_fine_27 0 rfl ?_
      refine g_get C f_Mo_98 hM7.1 rfl d_Mo_fine_28 ?_
      refine g_if_le C 36 d_Mo_fine_31 rfl (by omega) (fun c8 => ?_) (fun c8 => ?_)
      · obtain ⟨i, rfl⟩ : ∃ i : Nat, z1_ = (i : Int) := ⟨z1_.toNat, by omega⟩
        refine g_iload_n C d_Mo_fine_36 2 rfl ?_
        refine g_aload_n C d_Mo_fine_37 0 rfl ?_
        refine g_iload_n C d_Mo_fine_38 1 rfl ?_
        refine g_calliP C (run_V C [.int (iI ((i : Int)))] k_Mo_129 (ct_Mo_dueDay l D tys A M7 hT9 m a f 0 (s 0 0 0) ((np : Int)) ((nl : Int)) ((nt : Int)) ((ns : Int)) (s 0 0 5) v7 v8 v9 s np nl nt ns hS0 hr9 i (by omega) hM7) hM7.1 ⟨rfl, rfl, Nat.le_of_ble_eq_true rfl, Nat.le_of_ble_eq_true rfl⟩ rfl rfl (Nat.le_of_ble_eq_true rfl) d_Mo_fine_39 ⟨Nat.le_of_ble_eq_true rfl, Nat.le_of_ble_eq_true rfl⟩) (fun z9 hz9 => ?_)
        subst hz9
        have hdz9 := sDue_b (okt i (by omega)).1
        refine g_isub C d_Mo_fine_42 ?_
        refine g_istore_n (lv' := [(3, .int (iI (z2_ - (sDue (s 3 i))))), (0, .ref m), (1, .int (iI ((i : Int)))), (2, .int (iI z2_))]) C d_Mo_fine_43 (by decide) rfl ?_
        refine g_iload_n C d_Mo_fine_44 0 rfl ?_
        refine g_if_gt C 50 d_Mo_fine_45 rfl (by omega) (fun c10 => ?_) (fun c10 => ?_)
        · refine g_iload_n C d_Mo_fine_50 0 rfl ?_
          refine g_bipush C d_Mo_fine_51 (by decide) ?_
          refine g_icmp_ge C 61 d_Mo_fine_53 rfl (by omega) (fun c11 => ?_) (fun c11 => ?_)
          · refine g_ldc2 C 10 q2_Mo_160 d_Mo_fine_61 ?_
            refine g_lstore (lv' := [(4, .long (lI 10)), (3, .int (iI (z2_ - (sDue (s 3 i))))), (0, .ref m), (1, .int (iI ((i : Int)))), (2, .int (iI z2_))]) C d_Mo_fine_64 (by decide) rfl ?_
            refine g_iload_n C d_Mo_fine_66 1 rfl ?_
            refine g_bipush C d_Mo_fine_67 (by decide) ?_
            refine g_icmp_ge C 76 d_Mo_fine_69 rfl (by omega) (fun c12 => ?_) (fun c12 => ?_)
            · refine g_iload_n C d_Mo_fine_76 1 rfl ?_
              refine g_bipush C d_Mo_fine_77 (by decide) ?_
              refine g_icmp_ge C 90 d_Mo_fine_79 rfl (by omega) (fun c13 => ?_) (fun c13 => ?_)
              · refine g_ldc2 C 20 q2_Mo_162 d_Mo_fine_90 ?_
                refine g_lstore (lv' := [(6, .long (lI 20)), (4, .long (lI 10)), (3, .int (iI (z2_ - (sDue (s 3 i))))), (0, .ref m), (1, .int (iI ((i : Int)))), (2, .int (iI z2_))]) C d_Mo_fine_93 (by decide) rfl ?_
                refine g_iload_n C d_Mo_fine_95 2 rfl ?_
                refine g_bipush C d_Mo_fine_96 (by decide) ?_
                refine g_icmp_ge C 105 d_Mo_fine_98 rfl (by omega) (fun c14 => ?_) (fun c14 => ?_)
                · refine g_iload_n C d_Mo_fine_105 2 rfl ?_
                  refine g_bipush C d_Mo_fine_106 (by decide) ?_
                  refine g_isub C d_Mo_fine_108 ?_
                  refine g_i2l C (by omega) d_Mo_fine_109 ?_
                  refine g_lstore (lv' := [(8, .long (lI ((z2_ - (sDue (s 3 i))) - 30))), (6, .long (lI 20)), (4, .long (lI 10)), (3, .int (iI (z2_ - (sDue (s 3 i))))), (0, .ref m), (1, .int (iI ((i : Int)))), (2, .int (iI z2_))]) C d_Mo_fine_110 (by decide) rfl ?_
                  refine g_aload_n C d_Mo_fine_112 4 rfl ?_
                  refine g_get C f_Mo_95 hM7.1 rfl d_Mo_fine_113 ?_
                  refine g_i2l C (by omega) d_Mo_fine_116 ?_
                  refine g_lload C d_Mo_fine_117 2 rfl ?_
                  refine g_ldc2 C 2 q2_Mo_164 d_Mo_fine_119 ?_
                  refine g_lload C d_Mo_fine_122 1 rfl ?_
                  refine g_lmul C d_Mo_fine_124 ?_
                  refine g_ladd C d_Mo_fine_125 ?_
                  refine g_ldc2 C 4 q2_Mo_166 d_Mo_fine_126 ?_
                  refine g_lload C d_Mo_fine_129 0 rfl ?_
                  refine g_lmul C d_Mo_fine_131 ?_
                  refine g_ladd C d_Mo_fine_132 ?_
                  have hdo := sDays_or (z2_ - sDue (s 3 i))
                  rw [show (10 + (2 * 20)) + (4 * ((z2_ - (sDue (s 3 i))) - 30)) = sDays (z2_ - sDue (s 3 i)) by omega]
                  have hmul := mul_b (a := s 0 0 0) (b := sDays (z2_ - sDue (s 3 i))) (n := 1000) (k := 500000) (by omega) (by omega)
                  refine g_lmul C d_Mo_fine_133 ?_
                  refine g_lstore (lv' := [(10, .long (lI ((s 0 0 0) * (sDays (z2_ - sDue (s 3 i)))))), (8, .long (lI ((z2_ - (sDue (s 3 i))) - 30))), (6, .long (lI 20)), (4, .long (lI 10)), (3, .int (iI (z2_ - (sDue (s 3 i))))), (0, .ref m), (1, .int (iI ((i : Int)))), (2, .int (iI z2_))]) C d_Mo_fine_134 (by decide) rfl ?_
                  refine g_lload C d_Mo_fine_136 0 rfl ?_
                  refine g_ldc2 C 1000000 q2_Mo_168 d_Mo_fine_138 ?_
                  refine g_lcmp C (by omega) d_Mo_fine_141 ?_
                  obtain ⟨z15, ez15⟩ : ∃ z : Int, z = if 1000000 < (s 0 0 0) * (sDays (z2_ - sDue (s 3 i))) then 1 else if (s 0 0 0) * (sDays (z2_ - sDue (s 3 i))) = 1000000 then 0 else -1 := ⟨_, rfl⟩
                  rw [← ez15]
                  have hz15 : (1000000 < (s 0 0 0) * (sDays (z2_ - sDue (s 3 i))) ∧ z15 = 1) ∨ ((s 0 0 0) * (sDays (z2_ - sDue (s 3 i))) = 1000000 ∧ z15 = 0) ∨ ((s 0 0 0) * (sDays (z2_ - sDue (s 3 i))) < 1000000 ∧ z15 = -1) := by
                    rw [ez15]
                    split
                    · omega
                    · split <;> omega
                  refine g_if_le C 150 d_Mo_fine_142 rfl (by omega) (fun c16 => ?_) (fun c16 => ?_)
                  · refine g_lload C d_Mo_fine_150 0 rfl ?_
                    refine g_l2i C d_Mo_fine_152 ?_
                    exact g_iret C hr d_Mo_fine_153 (Or.inl ⟨by omega, (by rw [show ((i : Nat) : Int).toNat = i by omega]; unfold sFine; split <;> omega), RM_of hM7 rfl e1.symm e2.symm e3.symm e4.symm rfl e1 e2 e3 e4 hr9 ht9⟩)
                  · refine g_ldc C 1000000 q_Mo_170 d_Mo_fine_145 ?_
                    refine g_goto C 153 d_Mo_fine_147 rfl ?_
                    exact g_iret C hr d_Mo_fine_153 (Or.inl ⟨by omega, (by rw [show ((i : Nat) : Int).toNat = i by omega]; unfold sFine; split <;> omega), RM_of hM7 rfl e1.symm e2.symm e3.symm e4.symm rfl e1 e2 e3 e4 hr9 ht9⟩)
                · refine g_lconst C d_Mo_fine_101 ?_
                  refine g_goto C 110 d_Mo_fine_102 rfl ?_
                  refine g_lstore (lv' := [(8, .long (lI 0)), (6, .long (lI 20)), (4, .long (lI 10)), (3, .int (iI (z2_ - (sDue (s 3 i))))), (0, .ref m), (1, .int (iI ((i : Int)))), (2, .int (iI z2_))]) C d_Mo_fine_110 (by decide) rfl ?_
                  refine g_aload_n C d_Mo_fine_112 4 rfl ?_
                  refine g_get C f_Mo_95 hM7.1 rfl d_Mo_fine_113 ?_
                  refine g_i2l C (by omega) d_Mo_fine_116 ?_
                  refine g_lload C d_Mo_fine_117 2 rfl ?_
                  refine g_ldc2 C 2 q2_Mo_164 d_Mo_fine_119 ?_
                  refine g_lload C d_Mo_fine_122 1 rfl ?_
                  refine g_lmul C d_Mo_fine_124 ?_
                  refine g_ladd C d_Mo_fine_125 ?_
                  refine g_ldc2 C 4 q2_Mo_166 d_Mo_fine_126 ?_
                  refine g_lload C d_Mo_fine_129 0 rfl ?_
                  refine g_lmul C d_Mo_fine_131 ?_
                  refine g_ladd C d_Mo_fine_132 ?_
                  have hdo := sDays_or (z2_ - sDue (s 3 i))
                  rw [show (10 + (2 * 20)) + (4 * 0) = sDays (z2_ - sDue (s 3 i)) by omega]
                  have hmul := mul_b (a := s 0 0 0) (b := sDays (z2_ - sDue (s 3 i))) (n := 1000) (k := 500000) (by omega) (by omega)
                  refine g_lmul C d_Mo_fine_133 ?_
                  refine g_lstore (lv' := [(10, .long (lI ((s 0 0 0) * (sDays (z2_ - sDue (s 3 i)))))), (8, .long (lI 0)), (6, .long (lI 20)), (4, .long (lI 10)), (3, .int (iI (z2_ - (sDue (s 3 i))))), (0, .ref m), (1, .int (iI ((i : Int)))), (2, .int (iI z2_))]) C d_Mo_fine_134 (by decide) rfl ?_
                  refine g_lload C d_Mo_fine_136 0 rfl ?_
                  refine g_ldc2 C 1000000 q2_Mo_168 d_Mo_fine_138 ?_
                  refine g_lcmp C (by omega) d_Mo_fine_141 ?_
                  obtain ⟨z17, ez17⟩ : ∃ z : Int, z = if 1000000 < (s 0 0 0) * (sDays (z2_ - sDue (s 3 i))) then 1 else if (s 0 0 0) * (sDays (z2_ - sDue (s 3 i))) = 1000000 then 0 else -1 := ⟨_, rfl⟩
                  rw [← ez17]
                  have hz17 : (1000000 < (s 0 0 0) * (sDays (z2_ - sDue (s 3 i))) ∧ z17 = 1) ∨ ((s 0 0 0) * (sDays (z2_ - sDue (s 3 i))) = 1000000 ∧ z17 = 0) ∨ ((s 0 0 0) * (sDays (z2_ - sDue (s 3 i))) < 1000000 ∧ z17 = -1) := by
                    rw [ez17]
                    split
                    · omega
                    · split <;> omega
                  refine g_if_le C 150 d_Mo_fine_142 rfl (by omega) (fun c18 => ?_) (fun c18 => ?_)
                  · refine g_lload C d_Mo_fine_150 0 rfl ?_
                    refine g_l2i C d_Mo_fine_152 ?_
                    exact g_iret C hr d_Mo_fine_153 (Or.inl ⟨by omega, (by rw [show ((i : Nat) : Int).toNat = i by omega]; unfold sFine; split <;> omega), RM_of hM7 rfl e1.symm e2.symm e3.symm e4.symm rfl e1 e2 e3 e4 hr9 ht9⟩)
                  · refine g_ldc C 1000000 q_Mo_170 d_Mo_fine_145 ?_
                    refine g_goto C 153 d_Mo_fine_147 rfl ?_
                    exact g_iret C hr d_Mo_fine_153 (Or.inl ⟨by omega, (by rw [show ((i : Nat) : Int).toNat = i by omega]; unfold sFine; split <;> omega), RM_of hM7 rfl e1.symm e2.symm e3.symm e4.symm rfl e1 e2 e3 e4 hr9 ht9⟩)
              · refine g_iload_n C d_Mo_fine_82 1 rfl ?_
                refine g_bipush C d_Mo_fine_83 (by decide) ?_
                refine g_isub C d_Mo_fine_85 ?_
                refine g_i2l C (by omega) d_Mo_fine_86 ?_
                refine g_goto C 93 d_Mo_fine_87 rfl ?_
                refine g_lstore (lv' := [(6, .long (lI ((z2_ - (sDue (s 3 i))) - 10))), (4, .long (lI 10)), (3, .int (iI (z2_ - (sDue (s 3 i))))), (0, .ref m), (1, .int (iI ((i : Int)))), (2, .int (iI z2_))]) C d_Mo_fine_93 (by decide) rfl ?_
                refine g_iload_n C d_Mo_fine_95 2 rfl ?_
                refine g_bipush C d_Mo_fine_96 (by decide) ?_
                refine g_icmp_ge C 105 d_Mo_fine_98 rfl (by omega) (fun c19 => ?_) (fun c19 => ?_)
                · refine g_iload_n C d_Mo_fine_105 2 rfl ?_
                  refine g_bipush C d_Mo_fine_106 (by decide) ?_
                  refine g_isub C d_Mo_fine_108 ?_
                  refine g_i2l C (by omega) d_Mo_fine_109 ?_
                  refine g_lstore (lv' := [(8, .long (lI ((z2_ - (sDue (s 3 i))) - 30))), (6, .long (lI ((z2_ - (sDue (s 3 i))) - 10))), (4, .long (lI 10)), (3, .int (iI (z2_ - (sDue (s 3 i))))), (0, .ref m), (1, .int (iI ((i : Int)))), (2, .int (iI z2_))]) C d_Mo_fine_110 (by decide) rfl ?_
                  refine g_aload_n C d_Mo_fine_112 4 rfl ?_
                  refine g_get C f_Mo_95 hM7.1 rfl d_Mo_fine_113 ?_
                  refine g_i2l C (by omega) d_Mo_fine_116 ?_
                  refine g_lload C d_Mo_fine_117 2 rfl ?_
                  refine g_ldc2 C 2 q2_Mo_164 d_Mo_fine_119 ?_
                  refine g_lload C d_Mo_fine_122 1 rfl ?_
                  refine g_lmul C d_Mo_fine_124 ?_
                  refine g_ladd C d_Mo_fine_125 ?_
                  refine g_ldc2 C 4 q2_Mo_166 d_Mo_fine_126 ?_
                  refine g_lload C d_Mo_fine_129 0 rfl ?_
                  refine g_lmul C d_Mo_fine_131 ?_
                  refine g_ladd C d_Mo_fine_132 ?_
                  have hdo := sDays_or (z2_ - sDue (s 3 i))
                  rw [show (10 + (2 * ((z2_ - (sDue (s 3 i))) - 10))) + (4 * ((z2_ - (sDue (s 3 i))) - 30)) = sDays (z2_ - sDue (s 3 i)) by omega]
                  have hmul := mul_b (a := s 0 0 0) (b := sDays (z2_ - sDue (s 3 i))) (n := 1000) (k := 500000) (by omega) (by omega)
                  refine g_lmul C d_Mo_fine_133 ?_
                  refine g_lstore (lv' := [(10, .long (lI ((s 0 0 0) * (sDays (z2_ - sDue (s 3 i)))))), (8, .long (lI ((z2_ - (sDue (s 3 i))) - 30))), (6, .long (lI ((z2_ - (sDue (s 3 i))) - 10))), (4, .long (lI 10)), (3, .int (iI (z2_ - (sDue (s 3 i))))), (0, .ref m), (1, .int (iI ((i : Int)))), (2, .int (iI z2_))]) C d_Mo_fine_134 (by decide) rfl ?_
                  refine g_lload C d_Mo_fine_136 0 rfl ?_
                  refine g_ldc2 C 1000000 q2_Mo_168 d_Mo_fine_138 ?_
                  refine g_lcmp C (by omega) d_Mo_fine_141 ?_
                  obtain ⟨z20, ez20⟩ : ∃ z : Int, z = if 1000000 < (s 0 0 0) * (sDays (z2_ - sDue (s 3 i))) then 1 else if (s 0 0 0) * (sDays (z2_ - sDue (s 3 i))) = 1000000 then 0 else -1 := ⟨_, rfl⟩
                  rw [← ez20]
                  have hz20 : (1000000 < (s 0 0 0) * (sDays (z2_ - sDue (s 3 i))) ∧ z20 = 1) ∨ ((s 0 0 0) * (sDays (z2_ - sDue (s 3 i))) = 1000000 ∧ z20 = 0) ∨ ((s 0 0 0) * (sDays (z2_ - sDue (s 3 i))) < 1000000 ∧ z20 = -1) := by
                    rw [ez20]
                    split
                    · omega
                    · split <;> omega
                  refine g_if_le C 150 d_Mo_fine_142 rfl (by omega) (fun c21 => ?_) (fun c21 => ?_)
                  · refine g_lload C d_Mo_fine_150 0 rfl ?_
                    refine g_l2i C d_Mo_fine_152 ?_
                    exact g_iret C hr d_Mo_fine_153 (Or.inl ⟨by omega, (by rw [show ((i : Nat) : Int).toNat = i by omega]; unfold sFine; split <;> omega), RM_of hM7 rfl e1.symm e2.symm e3.symm e4.symm rfl e1 e2 e3 e4 hr9 ht9⟩)
                  · refine g_ldc C 1000000 q_Mo_170 d_Mo_fine_145 ?_
                    refine g_goto C 153 d_Mo_fine_147 rfl ?_
                    exact g_iret C hr d_Mo_fine_153 (Or.inl ⟨by omega, (by rw [show ((i : Nat) : Int).toNat = i by omega]; unfold sFine; split <;> omega), RM_of hM7 rfl e1.symm e2.symm e3.symm e4.symm rfl e1 e2 e3 e4 hr9 ht9⟩)
                · refine g_lconst C d_Mo_fine_101 ?_
                  refine g_goto C 110 d_Mo_fine_102 rfl ?_
                  refine g_lstore (lv' := [(8, .long (lI 0)), (6, .long (lI ((z2_ - (sDue (s 3 i))) - 10))), (4, .long (lI 10)), (3, .int (iI (z2_ - (sDue (s 3 i))))), (0, .ref m), (1, .int (iI ((i : Int)))), (2, .int (iI z2_))]) C d_Mo_fine_110 (by decide) rfl ?_
                  refine g_aload_n C d_Mo_fine_112 4 rfl ?_
                  refine g_get C f_Mo_95 hM7.1 rfl d_Mo_fine_113 ?_
                  refine g_i2l C (by omega) d_Mo_fine_116 ?_
                  refine g_lload C d_Mo_fine_117 2 rfl ?_
                  refine g_ldc2 C 2 q2_Mo_164 d_Mo_fine_119 ?_
                  refine g_lload C d_Mo_fine_122 1 rfl ?_
                  refine g_lmul C d_Mo_fine_124 ?_
                  refine g_ladd C d_Mo_fine_125 ?_
                  refine g_ldc2 C 4 q2_Mo_166 d_Mo_fine_126 ?_
                  refine g_lload C d_Mo_fine_129 0 rfl ?_
                  refine g_lmul C d_Mo_fine_131 ?_
                  refine g_ladd C d_Mo_fine_132 ?_
                  have hdo := sDays_or (z2_ - sDue (s 3 i))
                  rw [show (10 + (2 * ((z2_ - (sDue (s 3 i))) - 10))) + (4 * 0) = sDays (z2_ - sDue (s 3 i)) by omega]
                  have hmul := mul_b (a := s 0 0 0) (b := sDays (z2_ - sDue (s 3 i))) (n := 1000) (k := 500000) (by omega) (by omega)
                  refine g_lmul C d_Mo_fine_133 ?_
                  refine g_lstore (lv' := [(10, .long (lI ((s 0 0 0) * (sDays (z2_ - sDue (s 3 i)))))), (8, .long (lI 0)), (6, .long (lI ((z2_ - (sDue (s 3 i))) - 10))), (4, .long (lI 10)), (3, .int (iI (z2_ - (sDue (s 3 i))))), (0, .ref m), (1, .int (iI ((i : Int)))), (2, .int (iI z2_))]) C d_Mo_fine_134 (by decide) rfl ?_
                  refine g_lload C d_Mo_fine_136 0 rfl ?_
                  refine g_ldc2 C 1000000 q2_Mo_168 d_Mo_fine_138 ?_
                  refine g_lcmp C (by omega) d_Mo_fine_141 ?_
                  obtain ⟨z22, ez22⟩ : ∃ z : Int, z = if 1000000 < (s 0 0 0) * (sDays (z2_ - sDue (s 3 i))) then 1 else if (s 0 0 0) * (sDays (z2_ - sDue (s 3 i))) = 1000000 then 0 else -1 := ⟨_, rfl⟩
                  rw [← ez22]
                  have hz22 : (1000000 < (s 0 0 0) * (sDays (z2_ - sDue (s 3 i))) ∧ z22 = 1) ∨ ((s 0 0 0) * (sDays (z2_ - sDue (s 3 i))) = 1000000 ∧ z22 = 0) ∨ ((s 0 0 0) * (sDays (z2_ - sDue (s 3 i))) < 1000000 ∧ z22 = -1) := by
                    rw [ez22]
                    split
                    · omega
                    · split <;> omega
                  refine g_if_le C 150 d_Mo_fine_142 rfl (by omega) (fun c23 => ?_) (fun c23 => ?_)
                  · refine g_lload C d_Mo_fine_150 0 rfl ?_
                    refine g_l2i C d_Mo_fine_152 ?_
                    exact g_iret C hr d_Mo_fine_153 (Or.inl ⟨by omega, (by rw [show ((i : Nat) : Int).toNat = i by omega]; unfold sFine; split <;> omega), RM_of hM7 rfl e1.symm e2.symm e3.symm e4.symm rfl e1 e2 e3 e4 hr9 ht9⟩)
                  · refine g_ldc C 1000000 q_Mo_170 d_Mo_fine_145 ?_
                    refine g_goto C 153 d_Mo_fine_147 rfl ?_
                    exact g_iret C hr d_Mo_fine_153 (Or.inl ⟨by omega, (by rw [show ((i : Nat) : Int).toNat = i by omega]; unfold sFine; split <;> omega), RM_of hM7 rfl e1.symm e2.symm e3.symm e4.symm rfl e1 e2 e3 e4 hr9 ht9⟩)
            · refine g_lconst C d_Mo_fine_72 ?_
              refine g_goto C 93 d_Mo_fine_73 rfl ?_
              refine g_lstore (lv' := [(6, .long (lI 0)), (4, .long (lI 10)), (3, .int (iI (z2_ - (sDue (s 3 i))))), (0, .ref m), (1, .int (iI ((i : Int)))), (2, .int (iI z2_))]) C d_Mo_fine_93 (by decide) rfl ?_
              refine g_iload_n C d_Mo_fine_95 2 rfl ?_
              refine g_bipush C d_Mo_fine_96 (by decide) ?_
              refine g_icmp_ge C 105 d_Mo_fine_98 rfl (by omega) (fun c24 => ?_) (fun c24 => ?_)
              · refine g_iload_n C d_Mo_fine_105 2 rfl ?_
                refine g_bipush C d_Mo_fine_106 (by decide) ?_
                refine g_isub C d_Mo_fine_108 ?_
                refine g_i2l C (by omega) d_Mo_fine_109 ?_
                refine g_lstore (lv' := [(8, .long (lI ((z2_ - (sDue (s 3 i))) - 30))), (6, .long (lI 0)), (4, .long (lI 10)), (3, .int (iI (z2_ - (sDue (s 3 i))))), (0, .ref m), (1, .int (iI ((i : Int)))), (2, .int (iI z2_))]) C d_Mo_fine_110 (by decide) rfl ?_
                refine g_aload_n C d_Mo_fine_112 4 rfl ?_
                refine g_get C f_Mo_95 hM7.1 rfl d_Mo_fine_113 ?_
                refine g_i2l C (by omega) d_Mo_fine_116 ?_
                refine g_lload C d_Mo_fine_117 2 rfl ?_
                refine g_ldc2 C 2 q2_Mo_164 d_Mo_fine_119 ?_
                refine g_lload C d_Mo_fine_122 1 rfl ?_
                refine g_lmul C d_Mo_fine_124 ?_
                refine g_ladd C d_Mo_fine_125 ?_
                refine g_ldc2 C 4 q2_Mo_166 d_Mo_fine_126 ?_
                refine g_lload C d_Mo_fine_129 0 rfl ?_
                refine g_lmul C d_Mo_fine_131 ?_
                refine g_ladd C d_Mo_fine_132 ?_
                have hdo := sDays_or (z2_ - sDue (s 3 i))
                rw [show (10 + (2 * 0)) + (4 * ((z2_ - (sDue (s 3 i))) - 30)) = sDays (z2_ - sDue (s 3 i)) by omega]
                have hmul := mul_b (a := s 0 0 0) (b := sDays (z2_ - sDue (s 3 i))) (n := 1000) (k := 500000) (by omega) (by omega)
                refine g_lmul C d_Mo_fine_133 ?_
                refine g_lstore (lv' := [(10, .long (lI ((s 0 0 0) * (sDays (z2_ - sDue (s 3 i)))))), (8, .long (lI ((z2_ - (sDue (s 3 i))) - 30))), (6, .long (lI 0)), (4, .long (lI 10)), (3, .int (iI (z2_ - (sDue (s 3 i))))), (0, .ref m), (1, .int (iI ((i : Int)))), (2, .int (iI z2_))]) C d_Mo_fine_134 (by decide) rfl ?_
                refine g_lload C d_Mo_fine_136 0 rfl ?_
                refine g_ldc2 C 1000000 q2_Mo_168 d_Mo_fine_138 ?_
                refine g_lcmp C (by omega) d_Mo_fine_141 ?_
                obtain ⟨z25, ez25⟩ : ∃ z : Int, z = if 1000000 < (s 0 0 0) * (sDays (z2_ - sDue (s 3 i))) then 1 else if (s 0 0 0) * (sDays (z2_ - sDue (s 3 i))) = 1000000 then 0 else -1 := ⟨_, rfl⟩
                rw [← ez25]
                have hz25 : (1000000 < (s 0 0 0) * (sDays (z2_ - sDue (s 3 i))) ∧ z25 = 1) ∨ ((s 0 0 0) * (sDays (z2_ - sDue (s 3 i))) = 1000000 ∧ z25 = 0) ∨ ((s 0 0 0) * (sDays (z2_ - sDue (s 3 i))) < 1000000 ∧ z25 = -1) := by
                  rw [ez25]
                  split
                  · omega
                  · split <;> omega
                refine g_if_le C 150 d_Mo_fine_142 rfl (by omega) (fun c26 => ?_) (fun c26 => ?_)
                · refine g_lload C d_Mo_fine_150 0 rfl ?_
                  refine g_l2i C d_Mo_fine_152 ?_
                  exact g_iret C hr d_Mo_fine_153 (Or.inl ⟨by omega, (by rw [show ((i : Nat) : Int).toNat = i by omega]; unfold sFine; split <;> omega), RM_of hM7 rfl e1.symm e2.symm e3.symm e4.symm rfl e1 e2 e3 e4 hr9 ht9⟩)
                · refine g_ldc C 1000000 q_Mo_170 d_Mo_fine_145 ?_
                  refine g_goto C 153 d_Mo_fine_147 rfl ?_
                  exact g_iret C hr d_Mo_fine_153 (Or.inl ⟨by omega, (by rw [show ((i : Nat) : Int).toNat = i by omega]; unfold sFine; split <;> omega), RM_of hM7 rfl e1.symm e2.symm e3.symm e4.symm rfl e1 e2 e3 e4 hr9 ht9⟩)
              · refine g_lconst C d_Mo_fine_101 ?_
                refine g_goto C 110 d_Mo_fine_102 rfl ?_
                refine g_lstore (lv' := [(8, .long (lI 0)), (6, .long (lI 0)), (4, .long (lI 10)), (3, .int (iI (z2_ - (sDue (s 3 i))))), (0, .ref m), (1, .int (iI ((i : Int)))), (2, .int (iI z2_))]) C d_Mo_fine_110 (by decide) rfl ?_
                refine g_aload_n C d_Mo_fine_112 4 rfl ?_
                refine g_get C f_Mo_95 hM7.1 rfl d_Mo_fine_113 ?_
                refine g_i2l C (by omega) d_Mo_fine_116 ?_
                refine g_lload C d_Mo_fine_117 2 rfl ?_
                refine g_ldc2 C 2 q2_Mo_164 d_Mo_fine_119 ?_
                refine g_lload C d_Mo_fine_122 1 rfl ?_
                refine g_lmul C d_Mo_fine_124 ?_
                refine g_ladd C d_Mo_fine_125 ?_
                refine g_ldc2 C 4 q2_Mo_166 d_Mo_fine_126 ?_
                refine g_lload C d_Mo_fine_129 0 rfl ?_
                refine g_lmul C d_Mo_fine_131 ?_
                refine g_ladd C d_Mo_fine_132 ?_
                have hdo := sDays_or (z2_ - sDue (s 3 i))
                rw [show (10 + (2 * 0)) + (4 * 0) = sDays (z2_ - sDue (s 3 i)) by omega]
                have hmul := mul_b (a := s 0 0 0) (b := sDays (z2_ - sDue (s 3 i))) (n := 1000) (k := 500000) (by omega) (by omega)
                refine g_lmul C d_Mo_fine_133 ?_
                refine g_lstore (lv' := [(10, .long (lI ((s 0 0 0) * (sDays (z2_ - sDue (s 3 i)))))), (8, .long (lI 0)), (6, .long (lI 0)), (4, .long (lI 10)), (3, .int (iI (z2_ - (sDue (s 3 i))))), (0, .ref m), (1, .int (iI ((i : Int)))), (2, .int (iI z2_))]) C d_Mo_fine_134 (by decide) rfl ?_
                refine g_lload C d_Mo_fine_136 0 rfl ?_
                refine g_ldc2 C 1000000 q2_Mo_168 d_Mo_fine_138 ?_
                refine g_lcmp C (by omega) d_Mo_fine_141 ?_
                obtain ⟨z27, ez27⟩ : ∃ z : Int, z = if 1000000 < (s 0 0 0) * (sDays (z2_ - sDue (s 3 i))) then 1 else if (s 0 0 0) * (sDays (z2_ - sDue (s 3 i))) = 1000000 then 0 else -1 := ⟨_, rfl⟩
                rw [← ez27]
                have hz27 : (1000000 < (s 0 0 0) * (sDays (z2_ - sDue (s 3 i))) ∧ z27 = 1) ∨ ((s 0 0 0) * (sDays (z2_ - sDue (s 3 i))) = 1000000 ∧ z27 = 0) ∨ ((s 0 0 0) * (sDays (z2_ - sDue (s 3 i))) < 1000000 ∧ z27 = -1) := by
                  rw [ez27]
                  split
                  · omega
                  · split <;> omega
                refine g_if_le C 150 d_Mo_fine_142 rfl (by omega) (fun c28 => ?_) (fun c28 => ?_)
                · refine g_lload C d_Mo_fine_150 0 rfl ?_
                  refine g_l2i C d_Mo_fine_152 ?_
                  exact g_iret C hr d_Mo_fine_153 (Or.inl ⟨by omega, (by rw [show ((i : Nat) : Int).toNat = i by omega]; unfold sFine; split <;> omega), RM_of hM7 rfl e1.symm e2.symm e3.symm e4.symm rfl e1 e2 e3 e4 hr9 ht9⟩)
                · refine g_ldc C 1000000 q_Mo_170 d_Mo_fine_145 ?_
                  refine g_goto C 153 d_Mo_fine_147 rfl ?_
                  exact g_iret C hr d_Mo_fine_153 (Or.inl ⟨by omega, (by rw [show ((i : Nat) : Int).toNat = i by omega]; unfold sFine; split <;> omega), RM_of hM7 rfl e1.symm e2.symm e3.symm e4.symm rfl e1 e2 e3 e4 hr9 ht9⟩)
          · refine g_iload_n C d_Mo_fine_56 0 rfl ?_
            refine g_i2l C (by omega) d_Mo_fine_57 ?_
            refine g_goto C 64 d_Mo_fine_58 rfl ?_
            refine g_lstore (lv' := [(4, .long (lI (z2_ - (sDue (s 3 i))))), (3, .int (iI (z2_ - (sDue (s 3 i))))), (0, .ref m), (1, .int (iI ((i : Int)))), (2, .int (iI z2_))]) C d_Mo_fine_64 (by decide) rfl ?_
            refine g_iload_n C d_Mo_fine_66 1 rfl ?_
            refine g_bipush C d_Mo_fine_67 (by decide) ?_
            refine g_icmp_ge C 76 d_Mo_fine_69 rfl (by omega) (fun c29 => ?_) (fun c29 => ?_)
            · refine g_iload_n C d_Mo_fine_76 1 rfl ?_
              refine g_bipush C d_Mo_fine_77 (by decide) ?_
              refine g_icmp_ge C 90 d_Mo_fine_79 rfl (by omega) (fun c30 => ?_) (fun c30 => ?_)
              · refine g_ldc2 C 20 q2_Mo_162 d_Mo_fine_90 ?_
                refine g_lstore (lv' := [(6, .long (lI 20)), (4, .long (lI (z2_ - (sDue (s 3 i))))), (3, .int (iI (z2_ - (sDue (s 3 i))))), (0, .ref m), (1, .int (iI ((i : Int)))), (2, .int (iI z2_))]) C d_Mo_fine_93 (by decide) rfl ?_
                refine g_iload_n C d_Mo_fine_95 2 rfl ?_
                refine g_bipush C d_Mo_fine_96 (by decide) ?_
                refine g_icmp_ge C 105 d_Mo_fine_98 rfl (by omega) (fun c31 => ?_) (fun c31 => ?_)
                · refine g_iload_n C d_Mo_fine_105 2 rfl ?_
                  refine g_bipush C d_Mo_fine_106 (by decide) ?_
                  refine g_isub C d_Mo_fine_108 ?_
                  refine g_i2l C (by omega) d_Mo_fine_109 ?_
                  refine g_lstore (lv' := [(8, .long (lI ((z2_ - (sDue (s 3 i))) - 30))), (6, .long (lI 20)), (4, .long (lI (z2_ - (sDue (s 3 i))))), (3, .int (iI (z2_ - (sDue (s 3 i))))), (0, .ref m), (1, .int (iI ((i : Int)))), (2, .int (iI z2_))]) C d_Mo_fine_110 (by decide) rfl ?_
                  refine g_aload_n C d_Mo_fine_112 4 rfl ?_
                  refine g_get C f_Mo_95 hM7.1 rfl d_Mo_fine_113 ?_
                  refine g_i2l C (by omega) d_Mo_fine_116 ?_
                  refine g_lload C d_Mo_fine_117 2 rfl ?_
                  refine g_ldc2 C 2 q2_Mo_164 d_Mo_fine_119 ?_
                  refine g_lload C d_Mo_fine_122 1 rfl ?_
                  refine g_lmul C d_Mo_fine_124 ?_
                  refine g_ladd C d_Mo_fine_125 ?_
                  refine g_ldc2 C 4 q2_Mo_166 d_Mo_fine_126 ?_
                  refine g_lload C d_Mo_fine_129 0 rfl ?_
                  refine g_lmul C d_Mo_fine_131 ?_
                  refine g_ladd C d_Mo_fine_132 ?_
                  have hdo := sDays_or (z2_ - sDue (s 3 i))
                  rw [show ((z2_ - (sDue (s 3 i))) + (2 * 20)) + (4 * ((z2_ - (sDue (s 3 i))) - 30)) = sDays (z2_ - sDue (s 3 i)) by omega]
                  have hmul := mul_b (a := s 0 0 0) (b := sDays (z2_ - sDue (s 3 i))) (n := 1000) (k := 500000) (by omega) (by omega)
                  refine g_lmul C d_Mo_fine_133 ?_
                  refine g_lstore (lv' := [(10, .long (lI ((s 0 0 0) * (sDays (z2_ - sDue (s 3 i)))))), (8, .long (lI ((z2_ - (sDue (s 3 i))) - 30))), (6, .long (lI 20)), (4, .long (lI (z2_ - (sDue (s 3 i))))), (3, .int (iI (z2_ - (sDue (s 3 i))))), (0, .ref m), (1, .int (iI ((i : Int)))), (2, .int (iI z2_))]) C d_Mo_fine_134 (by decide) rfl ?_
                  refine g_lload C d_Mo_fine_136 0 rfl ?_
                  refine g_ldc2 C 1000000 q2_Mo_168 d_Mo_fine_138 ?_
                  refine g_lcmp C (by omega) d_Mo_fine_141 ?_
                  obtain ⟨z32, ez32⟩ : ∃ z : Int, z = if 1000000 < (s 0 0 0) * (sDays (z2_ - sDue (s 3 i))) then 1 else if (s 0 0 0) * (sDays (z2_ - sDue (s 3 i))) = 1000000 then 0 else -1 := ⟨_, rfl⟩
                  rw [← ez32]
                  have hz32 : (1000000 < (s 0 0 0) * (sDays (z2_ - sDue (s 3 i))) ∧ z32 = 1) ∨ ((s 0 0 0) * (sDays (z2_ - sDue (s 3 i))) = 1000000 ∧ z32 = 0) ∨ ((s 0 0 0) * (sDays (z2_ - sDue (s 3 i))) < 1000000 ∧ z32 = -1) := by
                    rw [ez32]
                    split
                    · omega
                    · split <;> omega
                  refine g_if_le C 150 d_Mo_fine_142 rfl (by omega) (fun c33 => ?_) (fun c33 => ?_)
                  · refine g_lload C d_Mo_fine_150 0 rfl ?_
                    refine g_l2i C d_Mo_fine_152 ?_
                    exact g_iret C hr d_Mo_fine_153 (Or.inl ⟨by omega, (by rw [show ((i : Nat) : Int).toNat = i by omega]; unfold sFine; split <;> omega), RM_of hM7 rfl e1.symm e2.symm e3.symm e4.symm rfl e1 e2 e3 e4 hr9 ht9⟩)
                  · refine g_ldc C 1000000 q_Mo_170 d_Mo_fine_145 ?_
                    refine g_goto C 153 d_Mo_fine_147 rfl ?_
                    exact g_iret C hr d_Mo_fine_153 (Or.inl ⟨by omega, (by rw [show ((i : Nat) : Int).toNat = i by omega]; unfold sFine; split <;> omega), RM_of hM7 rfl e1.symm e2.symm e3.symm e4.symm rfl e1 e2 e3 e4 hr9 ht9⟩)
                · refine g_lconst C d_Mo_fine_101 ?_
                  refine g_goto C 110 d_Mo_fine_102 rfl ?_
                  refine g_lstore (lv' := [(8, .long (lI 0)), (6, .long (lI 20)), (4, .long (lI (z2_ - (sDue (s 3 i))))), (3, .int (iI (z2_ - (sDue (s 3 i))))), (0, .ref m), (1, .int (iI ((i : Int)))), (2, .int (iI z2_))]) C d_Mo_fine_110 (by decide) rfl ?_
                  refine g_aload_n C d_Mo_fine_112 4 rfl ?_
                  refine g_get C f_Mo_95 hM7.1 rfl d_Mo_fine_113 ?_
                  refine g_i2l C (by omega) d_Mo_fine_116 ?_
                  refine g_lload C d_Mo_fine_117 2 rfl ?_
                  refine g_ldc2 C 2 q2_Mo_164 d_Mo_fine_119 ?_
                  refine g_lload C d_Mo_fine_122 1 rfl ?_
                  refine g_lmul C d_Mo_fine_124 ?_
                  refine g_ladd C d_Mo_fine_125 ?_
                  refine g_ldc2 C 4 q2_Mo_166 d_Mo_fine_126 ?_
                  refine g_lload C d_Mo_fine_129 0 rfl ?_
                  refine g_lmul C d_Mo_fine_131 ?_
                  refine g_ladd C d_Mo_fine_132 ?_
                  have hdo := sDays_or (z2_ - sDue (s 3 i))
                  rw [show ((z2_ - (sDue (s 3 i))) + (2 * 20)) + (4 * 0) = sDays (z2_ - sDue (s 3 i)) by omega]
                  have hmul := mul_b (a := s 0 0 0) (b := sDays (z2_ - sDue (s 3 i))) (n := 1000) (k := 500000) (by omega) (by omega)
                  refine g_lmul C d_Mo_fine_133 ?_
                  refine g_lstore (lv' := [(10, .long (lI ((s 0 0 0) * (sDays (z2_ - sDue (s 3 i)))))), (8, .long (lI 0)), (6, .long (lI 20)), (4, .long (lI (z2_ - (sDue (s 3 i))))), (3, .int (iI (z2_ - (sDue (s 3 i))))), (0, .ref m), (1, .int (iI ((i : Int)))), (2, .int (iI z2_))]) C d_Mo_fine_134 (by decide) rfl ?_
                  refine g_lload C d_Mo_fine_136 0 rfl ?_
                  refine g_ldc2 C 1000000 q2_Mo_168 d_Mo_fine_138 ?_
                  refine g_lcmp C (by omega) d_Mo_fine_141 ?_
                  obtain ⟨z34, ez34⟩ : ∃ z : Int, z = if 1000000 < (s 0 0 0) * (sDays (z2_ - sDue (s 3 i))) then 1 else if (s 0 0 0) * (sDays (z2_ - sDue (s 3 i))) = 1000000 then 0 else -1 := ⟨_, rfl⟩
                  rw [← ez34]
                  have hz34 : (1000000 < (s 0 0 0) * (sDays (z2_ - sDue (s 3 i))) ∧ z34 = 1) ∨ ((s 0 0 0) * (sDays (z2_ - sDue (s 3 i))) = 1000000 ∧ z34 = 0) ∨ ((s 0 0 0) * (sDays (z2_ - sDue (s 3 i))) < 1000000 ∧ z34 = -1) := by
                    rw [ez34]
                    split
                    · omega
                    · split <;> omega
                  refine g_if_le C 150 d_Mo_fine_142 rfl (by omega) (fun c35 => ?_) (fun c35 => ?_)
                  · refine g_lload C d_Mo_fine_150 0 rfl ?_
                    refine g_l2i C d_Mo_fine_152 ?_
                    exact g_iret C hr d_Mo_fine_153 (Or.inl ⟨by omega, (by rw [show ((i : Nat) : Int).toNat = i by omega]; unfold sFine; split <;> omega), RM_of hM7 rfl e1.symm e2.symm e3.symm e4.symm rfl e1 e2 e3 e4 hr9 ht9⟩)
                  · refine g_ldc C 1000000 q_Mo_170 d_Mo_fine_145 ?_
                    refine g_goto C 153 d_Mo_fine_147 rfl ?_
                    exact g_iret C hr d_Mo_fine_153 (Or.inl ⟨by omega, (by rw [show ((i : Nat) : Int).toNat = i by omega]; unfold sFine; split <;> omega), RM_of hM7 rfl e1.symm e2.symm e3.symm e4.symm rfl e1 e2 e3 e4 hr9 ht9⟩)
              · refine g_iload_n C d_Mo_fine_82 1 rfl ?_
                refine g_bipush C d_Mo_fine_83 (by decide) ?_
                refine g_isub C d_Mo_fine_85 ?_
                refine g_i2l C (by omega) d_Mo_fine_86 ?_
                refine g_goto C 93 d_Mo_fine_87 rfl ?_
                refine g_lstore (lv' := [(6, .long (lI ((z2_ - (sDue (s 3 i))) - 10))), (4, .long (lI (z2_ - (sDue (s 3 i))))), (3, .int (iI (z2_ - (sDue (s 3 i))))), (0, .ref m), (1, .int (iI ((i : Int)))), (2, .int (iI z2_))]) C d_Mo_fine_93 (by decide) rfl ?_
                refine g_iload_n C d_Mo_fine_95 2 rfl ?_
                refine g_bipush C d_Mo_fine_96 (by decide) ?_
                refine g_icmp_ge C 105 d_Mo_fine_98 rfl (by omega) (fun c36 => ?_) (fun c36 => ?_)
                · refine g_iload_n C d_Mo_fine_105 2 rfl ?_
                  refine g_bipush C d_Mo_fine_106 (by decide) ?_
                  refine g_isub C d_Mo_fine_108 ?_
                  refine g_i2l C (by omega) d_Mo_fine_109 ?_
                  refine g_lstore (lv' := [(8, .long (lI ((z2_ - (sDue (s 3 i))) - 30))), (6, .long (lI ((z2_ - (sDue (s 3 i))) - 10))), (4, .long (lI (z2_ - (sDue (s 3 i))))), (3, .int (iI (z2_ - (sDue (s 3 i))))), (0, .ref m), (1, .int (iI ((i : Int)))), (2, .int (iI z2_))]) C d_Mo_fine_110 (by decide) rfl ?_
                  refine g_aload_n C d_Mo_fine_112 4 rfl ?_
                  refine g_get C f_Mo_95 hM7.1 rfl d_Mo_fine_113 ?_
                  refine g_i2l C (by omega) d_Mo_fine_116 ?_
                  refine g_lload C d_Mo_fine_117 2 rfl ?_
                  refine g_ldc2 C 2 q2_Mo_164 d_Mo_fine_119 ?_
                  refine g_lload C d_Mo_fine_122 1 rfl ?_
                  refine g_lmul C d_Mo_fine_124 ?_
                  refine g_ladd C d_Mo_fine_125 ?_
                  refine g_ldc2 C 4 q2_Mo_166 d_Mo_fine_126 ?_
                  refine g_lload C d_Mo_fine_129 0 rfl ?_
                  refine g_lmul C d_Mo_fine_131 ?_
                  refine g_ladd C d_Mo_fine_132 ?_
                  have hdo := sDays_or (z2_ - sDue (s 3 i))
                  rw [show ((z2_ - (sDue (s 3 i))) + (2 * ((z2_ - (sDue (s 3 i))) - 10))) + (4 * ((z2_ - (sDue (s 3 i))) - 30)) = sDays (z2_ - sDue (s 3 i)) by omega]
                  have hmul := mul_b (a := s 0 0 0) (b := sDays (z2_ - sDue (s 3 i))) (n := 1000) (k := 500000) (by omega) (by omega)
                  refine g_lmul C d_Mo_fine_133 ?_
                  refine g_lstore (lv' := [(10, .long (lI ((s 0 0 0) * (sDays (z2_ - sDue (s 3 i)))))), (8, .long (lI ((z2_ - (sDue (s 3 i))) - 30))), (6, .long (lI ((z2_ - (sDue (s 3 i))) - 10))), (4, .long (lI (z2_ - (sDue (s 3 i))))), (3, .int (iI (z2_ - (sDue (s 3 i))))), (0, .ref m), (1, .int (iI ((i : Int)))), (2, .int (iI z2_))]) C d_Mo_fine_134 (by decide) rfl ?_
                  refine g_lload C d_Mo_fine_136 0 rfl ?_
                  refine g_ldc2 C 1000000 q2_Mo_168 d_Mo_fine_138 ?_
                  refine g_lcmp C (by omega) d_Mo_fine_141 ?_
                  obtain ⟨z37, ez37⟩ : ∃ z : Int, z = if 1000000 < (s 0 0 0) * (sDays (z2_ - sDue (s 3 i))) then 1 else if (s 0 0 0) * (sDays (z2_ - sDue (s 3 i))) = 1000000 then 0 else -1 := ⟨_, rfl⟩
                  rw [← ez37]
                  have hz37 : (1000000 < (s 0 0 0) * (sDays (z2_ - sDue (s 3 i))) ∧ z37 = 1) ∨ ((s 0 0 0) * (sDays (z2_ - sDue (s 3 i))) = 1000000 ∧ z37 = 0) ∨ ((s 0 0 0) * (sDays (z2_ - sDue (s 3 i))) < 1000000 ∧ z37 = -1) := by
                    rw [ez37]
                    split
                    · omega
                    · split <;> omega
                  refine g_if_le C 150 d_Mo_fine_142 rfl (by omega) (fun c38 => ?_) (fun c38 => ?_)
                  · refine g_lload C d_Mo_fine_150 0 rfl ?_
                    refine g_l2i C d_Mo_fine_152 ?_
                    exact g_iret C hr d_Mo_fine_153 (Or.inl ⟨by omega, (by rw [show ((i : Nat) : Int).toNat = i by omega]; unfold sFine; split <;> omega), RM_of hM7 rfl e1.symm e2.symm e3.symm e4.symm rfl e1 e2 e3 e4 hr9 ht9⟩)
                  · refine g_ldc C 1000000 q_Mo_170 d_Mo_fine_145 ?_
                    refine g_goto C 153 d_Mo_fine_147 rfl ?_
                    exact g_iret C hr d_Mo_fine_153 (Or.inl ⟨by omega, (by rw [show ((i : Nat) : Int).toNat = i by omega]; unfold sFine; split <;> omega), RM_of hM7 rfl e1.symm e2.symm e3.symm e4.symm rfl e1 e2 e3 e4 hr9 ht9⟩)
                · refine g_lconst C d_Mo_fine_101 ?_
                  refine g_goto C 110 d_Mo_fine_102 rfl ?_
                  refine g_lstore (lv' := [(8, .long (lI 0)), (6, .long (lI ((z2_ - (sDue (s 3 i))) - 10))), (4, .long (lI (z2_ - (sDue (s 3 i))))), (3, .int (iI (z2_ - (sDue (s 3 i))))), (0, .ref m), (1, .int (iI ((i : Int)))), (2, .int (iI z2_))]) C d_Mo_fine_110 (by decide) rfl ?_
                  refine g_aload_n C d_Mo_fine_112 4 rfl ?_
                  refine g_get C f_Mo_95 hM7.1 rfl d_Mo_fine_113 ?_
                  refine g_i2l C (by omega) d_Mo_fine_116 ?_
                  refine g_lload C d_Mo_fine_117 2 rfl ?_
                  refine g_ldc2 C 2 q2_Mo_164 d_Mo_fine_119 ?_
                  refine g_lload C d_Mo_fine_122 1 rfl ?_
                  refine g_lmul C d_Mo_fine_124 ?_
                  refine g_ladd C d_Mo_fine_125 ?_
                  refine g_ldc2 C 4 q2_Mo_166 d_Mo_fine_126 ?_
                  refine g_lload C d_Mo_fine_129 0 rfl ?_
                  refine g_lmul C d_Mo_fine_131 ?_
                  refine g_ladd C d_Mo_fine_132 ?_
                  have hdo := sDays_or (z2_ - sDue (s 3 i))
                  rw [show ((z2_ - (sDue (s 3 i))) + (2 * ((z2_ - (sDue (s 3 i))) - 10))) + (4 * 0) = sDays (z2_ - sDue (s 3 i)) by omega]
                  have hmul := mul_b (a := s 0 0 0) (b := sDays (z2_ - sDue (s 3 i))) (n := 1000) (k := 500000) (by omega) (by omega)
                  refine g_lmul C d_Mo_fine_133 ?_
                  refine g_lstore (lv' := [(10, .long (lI ((s 0 0 0) * (sDays (z2_ - sDue (s 3 i)))))), (8, .long (lI 0)), (6, .long (lI ((z2_ - (sDue (s 3 i))) - 10))), (4, .long (lI (z2_ - (sDue (s 3 i))))), (3, .int (iI (z2_ - (sDue (s 3 i))))), (0, .ref m), (1, .int (iI ((i : Int)))), (2, .int (iI z2_))]) C d_Mo_fine_134 (by decide) rfl ?_
                  refine g_lload C d_Mo_fine_136 0 rfl ?_
                  refine g_ldc2 C 1000000 q2_Mo_168 d_Mo_fine_138 ?_
                  refine g_lcmp C (by omega) d_Mo_fine_141 ?_
                  obtain ⟨z39, ez39⟩ : ∃ z : Int, z = if 1000000 < (s 0 0 0) * (sDays (z2_ - sDue (s 3 i))) then 1 else if (s 0 0 0) * (sDays (z2_ - sDue (s 3 i))) = 1000000 then 0 else -1 := ⟨_, rfl⟩
                  rw [← ez39]
                  have hz39 : (1000000 < (s 0 0 0) * (sDays (z2_ - sDue (s 3 i))) ∧ z39 = 1) ∨ ((s 0 0 0) * (sDays (z2_ - sDue (s 3 i))) = 1000000 ∧ z39 = 0) ∨ ((s 0 0 0) * (sDays (z2_ - sDue (s 3 i))) < 1000000 ∧ z39 = -1) := by
                    rw [ez39]
                    split
                    · omega
                    · split <;> omega
                  refine g_if_le C 150 d_Mo_fine_142 rfl (by omega) (fun c40 => ?_) (fun c40 => ?_)
                  · refine g_lload C d_Mo_fine_150 0 rfl ?_
                    refine g_l2i C d_Mo_fine_152 ?_
                    exact g_iret C hr d_Mo_fine_153 (Or.inl ⟨by omega, (by rw [show ((i : Nat) : Int).toNat = i by omega]; unfold sFine; split <;> omega), RM_of hM7 rfl e1.symm e2.symm e3.symm e4.symm rfl e1 e2 e3 e4 hr9 ht9⟩)
                  · refine g_ldc C 1000000 q_Mo_170 d_Mo_fine_145 ?_
                    refine g_goto C 153 d_Mo_fine_147 rfl ?_
                    exact g_iret C hr d_Mo_fine_153 (Or.inl ⟨by omega, (by rw [show ((i : Nat) : Int).toNat = i by omega]; unfold sFine; split <;> omega), RM_of hM7 rfl e1.symm e2.symm e3.symm e4.symm rfl e1 e2 e3 e4 hr9 ht9⟩)
            · refine g_lconst C d_Mo_fine_72 ?_
              refine g_goto C 93 d_Mo_fine_73 rfl ?_
              refine g_lstore (lv' := [(6, .long (lI 0)), (4, .long (lI (z2_ - (sDue (s 3 i))))), (3, .int (iI (z2_ - (sDue (s 3 i))))), (0, .ref m), (1, .int (iI ((i : Int)))), (2, .int (iI z2_))]) C d_Mo_fine_93 (by decide) rfl ?_
              refine g_iload_n C d_Mo_fine_95 2 rfl ?_
              refine g_bipush C d_Mo_fine_96 (by decide) ?_
              refine g_icmp_ge C 105 d_Mo_fine_98 rfl (by omega) (fun c41 => ?_) (fun c41 => ?_)
              · refine g_iload_n C d_Mo_fine_105 2 rfl ?_
                refine g_bipush C d_Mo_fine_106 (by decide) ?_
                refine g_isub C d_Mo_fine_108 ?_
                refine g_i2l C (by omega) d_Mo_fine_109 ?_
                refine g_lstore (lv' := [(8, .long (lI ((z2_ - (sDue (s 3 i))) - 30))), (6, .long (lI 0)), (4, .long (lI (z2_ - (sDue (s 3 i))))), (3, .int (iI (z2_ - (sDue (s 3 i))))), (0, .ref m), (1, .int (iI ((i : Int)))), (2, .int (iI z2_))]) C d_Mo_fine_110 (by decide) rfl ?_
                refine g_aload_n C d_Mo_fine_112 4 rfl ?_
                refine g_get C f_Mo_95 hM7.1 rfl d_Mo_fine_113 ?_
                refine g_i2l C (by omega) d_Mo_fine_116 ?_
                refine g_lload C d_Mo_fine_117 2 rfl ?_
                refine g_ldc2 C 2 q2_Mo_164 d_Mo_fine_119 ?_
                refine g_lload C d_Mo_fine_122 1 rfl ?_
                refine g_lmul C d_Mo_fine_124 ?_
                refine g_ladd C d_Mo_fine_125 ?_
                refine g_ldc2 C 4 q2_Mo_166 d_Mo_fine_126 ?_
                refine g_lload C d_Mo_fine_129 0 rfl ?_
                refine g_lmul C d_Mo_fine_131 ?_
                refine g_ladd C d_Mo_fine_132 ?_
                have hdo := sDays_or (z2_ - sDue (s 3 i))
                rw [show ((z2_ - (sDue (s 3 i))) + (2 * 0)) + (4 * ((z2_ - (sDue (s 3 i))) - 30)) = sDays (z2_ - sDue (s 3 i)) by omega]
                have hmul := mul_b (a := s 0 0 0) (b := sDays (z2_ - sDue (s 3 i))) (n := 1000) (k := 500000) (by omega) (by omega)
                refine g_lmul C d_Mo_fine_133 ?_
                refine g_lstore (lv' := [(10, .long (lI ((s 0 0 0) * (sDays (z2_ - sDue (s 3 i)))))), (8, .long (lI ((z2_ - (sDue (s 3 i))) - 30))), (6, .long (lI 0)), (4, .long (lI (z2_ - (sDue (s 3 i))))), (3, .int (iI (z2_ - (sDue (s 3 i))))), (0, .ref m), (1, .int (iI ((i : Int)))), (2, .int (iI z2_))]) C d_Mo_fine_134 (by decide) rfl ?_
                refine g_lload C d_Mo_fine_136 0 rfl ?_
                refine g_ldc2 C 1000000 q2_Mo_168 d_Mo_fine_138 ?_
                refine g_lcmp C (by omega) d_Mo_fine_141 ?_
                obtain ⟨z42, ez42⟩ : ∃ z : Int, z = if 1000000 < (s 0 0 0) * (sDays (z2_ - sDue (s 3 i))) then 1 else if (s 0 0 0) * (sDays (z2_ - sDue (s 3 i))) = 1000000 then 0 else -1 := ⟨_, rfl⟩
                rw [← ez42]
                have hz42 : (1000000 < (s 0 0 0) * (sDays (z2_ - sDue (s 3 i))) ∧ z42 = 1) ∨ ((s 0 0 0) * (sDays (z2_ - sDue (s 3 i))) = 1000000 ∧ z42 = 0) ∨ ((s 0 0 0) * (sDays (z2_ - sDue (s 3 i))) < 1000000 ∧ z42 = -1) := by
                  rw [ez42]
                  split
                  · omega
                  · split <;> omega
                refine g_if_le C 150 d_Mo_fine_142 rfl (by omega) (fun c43 => ?_) (fun c43 => ?_)
                · refine g_lload C d_Mo_fine_150 0 rfl ?_
                  refine g_l2i C d_Mo_fine_152 ?_
                  exact g_iret C hr d_Mo_fine_153 (Or.inl ⟨by omega, (by rw [show ((i : Nat) : Int).toNat = i by omega]; unfold sFine; split <;> omega), RM_of hM7 rfl e1.symm e2.symm e3.symm e4.symm rfl e1 e2 e3 e4 hr9 ht9⟩)
                · refine g_ldc C 1000000 q_Mo_170 d_Mo_fine_145 ?_
                  refine g_goto C 153 d_Mo_fine_147 rfl ?_
                  exact g_iret C hr d_Mo_fine_153 (Or.inl ⟨by omega, (by rw [show ((i : Nat) : Int).toNat = i by omega]; unfold sFine; split <;> omega), RM_of hM7 rfl e1.symm e2.symm e3.symm e4.symm rfl e1 e2 e3 e4 hr9 ht9⟩)
              · refine g_lconst C d_Mo_fine_101 ?_
                refine g_goto C 110 d_Mo_fine_102 rfl ?_
                refine g_lstore (lv' := [(8, .long (lI 0)), (6, .long (lI 0)), (4, .long (lI (z2_ - (sDue (s 3 i))))), (3, .int (iI (z2_ - (sDue (s 3 i))))), (0, .ref m), (1, .int (iI ((i : Int)))), (2, .int (iI z2_))]) C d_Mo_fine_110 (by decide) rfl ?_
                refine g_aload_n C d_Mo_fine_112 4 rfl ?_
                refine g_get C f_Mo_95 hM7.1 rfl d_Mo_fine_113 ?_
                refine g_i2l C (by omega) d_Mo_fine_116 ?_
                refine g_lload C d_Mo_fine_117 2 rfl ?_
                refine g_ldc2 C 2 q2_Mo_164 d_Mo_fine_119 ?_
                refine g_lload C d_Mo_fine_122 1 rfl ?_
                refine g_lmul C d_Mo_fine_124 ?_
                refine g_ladd C d_Mo_fine_125 ?_
                refine g_ldc2 C 4 q2_Mo_166 d_Mo_fine_126 ?_
                refine g_lload C d_Mo_fine_129 0 rfl ?_
                refine g_lmul C d_Mo_fine_131 ?_
                refine g_ladd C d_Mo_fine_132 ?_
                have hdo := sDays_or (z2_ - sDue (s 3 i))
                rw [show ((z2_ - (sDue (s 3 i))) + (2 * 0)) + (4 * 0) = sDays (z2_ - sDue (s 3 i)) by omega]
                have hmul := mul_b (a := s 0 0 0) (b := sDays (z2_ - sDue (s 3 i))) (n := 1000) (k := 500000) (by omega) (by omega)
                refine g_lmul C d_Mo_fine_133 ?_
                refine g_lstore (lv' := [(10, .long (lI ((s 0 0 0) * (sDays (z2_ - sDue (s 3 i)))))), (8, .long (lI 0)), (6, .long (lI 0)), (4, .long (lI (z2_ - (sDue (s 3 i))))), (3, .int (iI (z2_ - (sDue (s 3 i))))), (0, .ref m), (1, .int (iI ((i : Int)))), (2, .int (iI z2_))]) C d_Mo_fine_134 (by decide) rfl ?_
                refine g_lload C d_Mo_fine_136 0 rfl ?_
                refine g_ldc2 C 1000000 q2_Mo_168 d_Mo_fine_138 ?_
                refine g_lcmp C (by omega) d_Mo_fine_141 ?_
                obtain ⟨z44, ez44⟩ : ∃ z : Int, z = if 1000000 < (s 0 0 0) * (sDays (z2_ - sDue (s 3 i))) then 1 else if (s 0 0 0) * (sDays (z2_ - sDue (s 3 i))) = 1000000 then 0 else -1 := ⟨_, rfl⟩
                rw [← ez44]
                have hz44 : (1000000 < (s 0 0 0) * (sDays (z2_ - sDue (s 3 i))) ∧ z44 = 1) ∨ ((s 0 0 0) * (sDays (z2_ - sDue (s 3 i))) = 1000000 ∧ z44 = 0) ∨ ((s 0 0 0) * (sDays (z2_ - sDue (s 3 i))) < 1000000 ∧ z44 = -1) := by
                  rw [ez44]
                  split
                  · omega
                  · split <;> omega
                refine g_if_le C 150 d_Mo_fine_142 rfl (by omega) (fun c45 => ?_) (fun c45 => ?_)
                · refine g_lload C d_Mo_fine_150 0 rfl ?_
                  refine g_l2i C d_Mo_fine_152 ?_
                  exact g_iret C hr d_Mo_fine_153 (Or.inl ⟨by omega, (by rw [show ((i : Nat) : Int).toNat = i by omega]; unfold sFine; split <;> omega), RM_of hM7 rfl e1.symm e2.symm e3.symm e4.symm rfl e1 e2 e3 e4 hr9 ht9⟩)
                · refine g_ldc C 1000000 q_Mo_170 d_Mo_fine_145 ?_
                  refine g_goto C 153 d_Mo_fine_147 rfl ?_
                  exact g_iret C hr d_Mo_fine_153 (Or.inl ⟨by omega, (by rw [show ((i : Nat) : Int).toNat = i by omega]; unfold sFine; split <;> omega), RM_of hM7 rfl e1.symm e2.symm e3.symm e4.symm rfl e1 e2 e3 e4 hr9 ht9⟩)
        · refine g_iconst C d_Mo_fine_48 ?_
          exact g_iret C hr d_Mo_fine_49 (Or.inl ⟨by omega, (by rw [show ((i : Nat) : Int).toNat = i by omega]; have hdo := sDays_or (z2_ - sDue (s 3 i)); unfold sFine; rw [show sDays (z2_ - sDue (s 3 i)) = 0 by omega, Int.mul_zero]; rfl), RM_of hM7 rfl e1.symm e2.symm e3.symm e4.symm rfl e1 e2 e3 e4 hr9 ht9⟩)
      · exact absurd c8 (by decide)
    · refine g_iconst C d_Mo_fine_19 ?_
      refine g_goto C 24 d_Mo_fine_20 rfl ?_
      refine g_put C p_Mo_98 hM.1 rfl rfl (Nat.le_of_ble_eq_true rfl) (fs' := [.int (iI 1), .int (iI (s 0 0 0)), .int (iI ((np : Int))), .ref (a 0), .ref (a 1), .ref (a 2), .int (iI ((nl : Int))), .ref (a 3), .ref (a 4), .ref (a 5), .ref (a 6), .ref (a 7), .ref (a 8), .int (iI ((nt : Int))), .ref (a 9), .ref (a 10), .ref (a 11), .ref (a 12), .ref (a 13), .ref (a 14), .ref (a 15), .ref (a 16), .ref (a 17), .ref (a 18), .int (iI ((ns : Int))), .ref (a 19), .ref (a 20), .ref (a 21), .ref (a 22), .int (iI (s 0 0 5)), .int (iI v7), .int (iI v8), .int (iI v9), .ref (a 23), .ref (a 24), .ref (a 25), .ref (a 26)]) rfl d_Mo_fine_24 ?_
      refine g_abs (X := fun M_ => MA tys M_ m a f 1 (s 0 0 0) ((np : Int)) ((nl : Int)) ((nt : Int)) ((ns : Int)) (s 0 0 5) v7 v8 v9) (MA_V hM 1 (s 0 0 0) ((np : Int)) ((nl : Int)) ((nt : Int)) ((ns : Int)) (s 0 0 5) v7 v8 v9) (fun M46 hM46 => ?_)
      refine g_aload_n C d_Mo_fine_27 0 rfl ?_
      refine g_get C f_Mo_98 hM46.1 rfl d_Mo_fine_28 ?_
      refine g_if_le C 36 d_Mo_fine_31 rfl (by omega) (fun c47 => ?_) (fun c47 => ?_)
      · exact absurd c47 (by decide)
      · refine g_iconst C d_Mo_fine_34 ?_
        exact g_iret C hr d_Mo_fine_35 (Or.inr ⟨by omega, RM_of hM46 rfl e1.symm e2.symm e3.symm e4.symm rfl e1 e2 e3 e4 hr9 ht9⟩)
set_option maxHeartbeats 4000000 in
set_option maxRecDepth 100000 in
theorem ct_Mo_late (l : Launch) (D : va_G) (tys : xK) (A : Nat → Prop) (M : Wm) (hT : tyOK tys) (m : Nat) (s : AS) (th : Int) (np nl nt ns : Nat) (hS : okS s np nl nt ns) (hTk : TOK s nl nt ns) (z1_ : Int) (hz1 : (-2147483648 ≤ z1_ ∧ z1_ < 2147483648))  (hRM : RM tys M m s th) : mT l y_Mo_late b_Mo_late 5 (some .int) { frames := 2, cells := 0, slots := 0, locals := 43 } D tys A [.ref m, .int (iI z1_)] M (qI D A (fun z M' => (0 ≤ z1_ ∧ ((z = -1 ∧ ∀ p, p < nt → ¬ ((bfc (fun k_ => sDue (s 3 k_)) nt p : Nat) : Int) = z1_) ∨ (∃ p : Nat, p < nt ∧ z = (p : Int) ∧ ((bfc (fun k_ => sDue (s 3 k_)) nt p : Nat) : Int) = z1_)) ∧ RM tys M' m s 0) ∨ (¬ 0 ≤ z1_ ∧ RM tys M' m s 1))) 0 0 := by
  refine met_of (own := R_Mo) (lv := [(0, .ref m), (1, .int (iI z1_))]) rfl (by decide) (Nat.le_of_ble_eq_true rfl) rfl ?_
  intro p_ e_ s_ m_ bl_ me_ c_ C hr hin
  have hT9 := hT
  obtain ⟨hT0, hT1, hT2, hT3, hT4, hT5, hT32, hT42, hT52, hT43, hT53, hT54⟩ := hT
  obtain ⟨a, f, v7, v8, v9, hM, hr9, ht9⟩ := RM_to hS hRM
  have hwho : -1 ≤ s 0 0 5 ∧ s 0 0 5 < (ns : Int) := by
    rcases hTk with ⟨h_, -⟩ | ⟨w_, cn_, dn_, h1_, h2_, -⟩ <;> omega
  obtain ⟨hv8, hv9, hvt⟩ := id ht9
  have hS0 := hS
  obtain ⟨⟨e1, e2, e3, e4⟩, ⟨b1_, b2_, b3_, b4_⟩, b5_, okp, oklf, okt, oku, oksp, okg, oku6⟩ := hS
  obtain ⟨rp, rl, rt, rz, re, rs⟩ := id hr9
  refine g_aload_n C d_Mo_late_0 0 rfl ?_
  refine g_iload_n C d_Mo_late_1 1 rfl ?_
  refine g_if_ge C 9 d_Mo_late_2 rfl (by omega) (fun c1 => ?_) (fun c1 => ?_)
  · refine g_iconst C d_Mo_late_9 ?_
    refine g_put C p_Mo_98 hM.1 rfl rfl (Nat.le_of_ble_eq_true rfl) (fs' := [.int (iI 0), .int (iI (s 0 0 0)), .int (iI ((np : Int))), .ref (a 0), .ref (a 1), .ref (a 2), .int (iI ((nl : Int))), .ref (a 3), .ref (a 4), .ref (a 5), .ref (a 6), .ref (a 7), .ref (a 8), .int (iI ((nt : Int))), .ref (a 9), .ref (a 10), .ref (a 11), .ref (a 12), .ref (a 13), .ref (a 14), .ref (a 15), .ref (a 16), .ref (a 17), .ref (a 18), .int (iI ((ns : Int))), .ref (a 19), .ref (a 20), .ref (a 21), .ref (a 22), .int (iI (s 0 0 5)), .int (iI v7), .int (iI v8), .int (iI v9), .ref (a 23), .ref (a 24), .ref (a 25), .ref (a 26)]) rfl d_Mo_late_10 ?_
    refine g_abs (X := fun M_ => MA tys M_ m a f 0 (s 0 0 0) ((np : Int)) ((nl : Int)) ((nt : Int)) ((ns : Int)) (s 0 0 5) v7 v8 v9) (MA_V hM 0 (s 0 0 0) ((np : Int)) ((nl : Int)) ((nt : Int)) ((ns : Int)) (s 0 0 5) v7 v8 v9) (fun M2 hM2 => ?_)
    refine g_iconst C d_Mo_late_13 ?_
    refine g_istore_n (lv' := [(2, .int (iI 0)), (0, .ref m), (1, .int (iI z1_))]) C d_Mo_late_14 (by decide) rfl ?_
    refine g_sub [1, 2, 0] rfl (g_loop (σ := Nat) (fun q_ => nt - q_) (fun q_ => (q_ ≤ nt) ∧ (∀ j_, j_ < q_ → ¬ ((bfc (fun k_ => sDue (s 3 k_)) nt j_ : Nat) : Int) = z1_)) (fun q_ => [(0, .ref m), (1, .int (iI z1_)), (2, .int (iI ((q_ : Int))))]) (fun q_ => M2) ?_ (0) (⟨Nat.zero_le _, (fun j_ hj_ => absurd hj_ (Nat.not_lt_zero j_))⟩))
    intro x_ hI ih15
    obtain ⟨p, rfl⟩ : ∃ z, z = x_ := ⟨_, rfl⟩
    try dsimp only at hI ih15 ⊢
    obtain ⟨hp0, hno⟩ := hI
    refine g_iload_n C d_Mo_late_15 2 rfl ?_
    refine g_aload_n C d_Mo_late_16 0 rfl ?_
    refine g_get C f_Mo_111 hM2.1 rfl d_Mo_late_17 ?_
    refine g_icmp_ge C 87 d_Mo_late_20 rfl (by omega) (fun c3 => ?_) (fun c3 => ?_)
    · refine g_aload_n C d_Mo_late_87 0 rfl ?_
      refine g_get C f_Mo_98 hM2.1 rfl d_Mo_late_88 ?_
      refine g_if_le C 98 d_Mo_late_91 rfl (by omega) (fun c4 => ?_) (fun c4 => ?_)
      · refine g_iconst C d_Mo_late_98 ?_
        exact g_iret C hr d_Mo_late_99 (Or.inl ⟨by omega, Or.inl ⟨rfl, fun j_ hj_ => hno j_ (by omega)⟩, RM_of hM2 rfl e1.symm e2.symm e3.symm e4.symm rfl e1 e2 e3 e4 hr9 ht9⟩)
      · exact absurd c4 (by decide)
    · refine g_aload_n C d_Mo_late_23 0 rfl ?_
      refine g_get C f_Mo_98 hM2.1 rfl d_Mo_late_24 ?_
      refine g_if_ne C 87 d_Mo_late_27 rfl (by omega) (fun c5 => ?_) (fun c5 => ?_)
      · exact absurd c5 (by decide)
      · refine g_iconst C d_Mo_late_30 ?_
        refine g_istore_n (lv' := [(3, .int (iI 0)), (0, .ref m), (1, .int (iI z1_)), (2, .int (iI ((p : Int))))]) C d_Mo_late_31 (by decide) rfl ?_
        refine g_iconst C d_Mo_late_32 ?_
        refine g_istore (lv' := [(4, .int (iI 0)), (3, .int (iI 0)), (0, .ref m), (1, .int (iI z1_)), (2, .int (iI ((p : Int))))]) C d_Mo_late_33 (by decide) rfl ?_
        refine g_sub [2, 3, 4, 1, 0] rfl (g_loop (σ := Nat) (fun q_ => nt - q_) (fun q_ => (q_ ≤ nt)) (fun q_ => [(0, .ref m), (1, .int (iI z1_)), (2, .int (iI ((p : Int)))), (3, .int (iI (((bfc (fun k_ => sDue (s 3 k_)) q_ p : Nat) : Int)))), (4, .int (iI ((q_ : Int))))]) (fun q_ => M2) ?_ (0) (Nat.zero_le _))
        intro x_ hI ih35
        obtain ⟨q, rfl⟩ : ∃ z, z = x_ := ⟨_, rfl⟩
        try dsimp only at hI ih35 ⊢
        have hq0 := hI
        have hbl := bfc_le (d := (fun k_ => sDue (s 3 k_))) q p
        refine g_iload C d_Mo_late_35 4 rfl ?_
        refine g_aload_n C d_Mo_late_37 0 rfl ?_
        refine g_get C f_Mo_111 hM2.1 rfl d_Mo_late_38 ?_
        refine g_icmp_ge C 74 d_Mo_late_41 rfl (by omega) (fun c6 => ?_) (fun c6 => ?_)
        · refine g_iload_n C d_Mo_late_74 3 rfl ?_
          refine g_iload_n C d_Mo_late_75 1 rfl ?_
          refine g_icmp_ne C 81 d_Mo_late_76 rfl (by omega) (fun c7 => ?_) (fun c7 => ?_)
          · refine g_iinc (lv' := [(2, .int (iI (((p : Int)) + 1))), (0, .ref m), (1, .int (iI z1_)), (3, .int (iI (((bfc (fun k_ => sDue (s 3 k_)) q p : Nat) : Int)))), (4, .int (iI ((q : Int))))]) C d_Mo_late_81 2 rfl (by decide) rfl ?_
            refine g_goto C 15 d_Mo_late_84 rfl ?_
            exact g_sub [1, 2, 0] rfl (ih15 (p + 1) ⟨(by omega), (fun j_ hj_ => by
                by_cases e_ : j_ = p
                · subst e_; rw [show nt = q by omega]; omega
                · exact hno j_ (by omega))⟩ (by first | omega | (dsimp only; omega)))
          · refine g_iload_n C d_Mo_late_79 2 rfl ?_
            exact g_iret C hr d_Mo_late_80 (Or.inl ⟨by omega, Or.inr ⟨p, by omega, rfl, by rw [show nt = q by omega]; omega⟩, RM_of hM2 rfl e1.symm e2.symm e3.symm e4.symm rfl e1 e2 e3 e4 hr9 ht9⟩)
        · refine g_iload_n C d_Mo_late_44 3 rfl ?_
          refine g_iload C d_Mo_late_45 4 rfl ?_
          refine g_iload_n C d_Mo_late_47 2 rfl ?_
          refine g_icmp_eq C 65 d_Mo_late_48 rfl (by omega) (fun c8 => ?_) (fun c8 => ?_)
          · refine g_iconst C d_Mo_late_65 ?_
            refine g_iadd C d_Mo_late_66 ?_
            refine g_istore_n (lv' := [(3, .int (iI ((((bfc (fun k_ => sDue (s 3 k_)) q p : Nat) : Int)) + 0))), (0, .ref m), (1, .int (iI z1_)), (2, .int (iI ((p : Int)))), (4, .int (iI ((q : Int))))]) C d_Mo_late_67 (by decide) rfl ?_
            refine g_iinc (lv' := [(4, .int (iI (((q : Int)) + 1))), (3, .int (iI ((((bfc (fun k_ => sDue (s 3 k_)) q p : Nat) : Int)) + 0))), (0, .ref m), (1, .int (iI z1_)), (2, .int (iI ((p : Int))))]) C d_Mo_late_68 4 rfl (by decide) rfl ?_
            refine g_goto C 35 d_Mo_late_71 rfl ?_
            rw [show ((bfc (fun k_ => sDue (s 3 k_)) q p : Nat) : Int) + 0 = ((bfc (fun k_ => sDue (s 3 k_)) (q + 1) p : Nat) : Int) by rw [bfc_s.2 (fun h_ => by rw [show q = p by omega] at h_; exact bf_irr h_)]; omega]
            exact g_sub [2, 3, 4, 1, 0] rfl (ih35 (q + 1) (by omega) (by first | omega | (dsimp only; omega)))
          · refine g_aload_n C d_Mo_late_51 0 rfl ?_
            refine g_iload C d_Mo_late_52 4 rfl ?_
            refine g_iload_n C d_Mo_late_54 2 rfl ?_
            refine g_calliP C (run_V C [.int (iI ((q : Int))), .int (iI ((p : Int)))] k_Mo_137 (ct_Mo_isBefore l D tys A M2 hT9 m a f 0 (s 0 0 0) ((np : Int)) ((nl : Int)) ((nt : Int)) ((ns : Int)) (s 0 0 5) v7 v8 v9 s np nl nt ns hS0 hr9 q p (by omega) (by omega) hM2) hM2.1 ⟨rfl, rfl, Nat.le_of_ble_eq_true rfl, Nat.le_of_ble_eq_true rfl⟩ rfl rfl (Nat.le_of_ble_eq_true rfl) d_Mo_late_55 ⟨Nat.le_of_ble_eq_true rfl, Nat.le_of_ble_eq_true rfl⟩) (fun z9 hz9 => ?_)
            refine g_if_eq C 65 d_Mo_late_58 rfl (by omega) (fun c10 => ?_) (fun c10 => ?_)
            · refine g_iconst C d_Mo_late_65 ?_
              refine g_iadd C d_Mo_late_66 ?_
              refine g_istore_n (lv' := [(3, .int (iI ((((bfc (fun k_ => sDue (s 3 k_)) q p : Nat) : Int)) + 0))), (0, .ref m), (1, .int (iI z1_)), (2, .int (iI ((p : Int)))), (4, .int (iI ((q : Int))))]) C d_Mo_late_67 (by decide) rfl ?_
              refine g_iinc (lv' := [(4, .int (iI (((q : Int)) + 1))), (3, .int (iI ((((bfc (fun k_ => sDue (s 3 k_)) q p : Nat) : Int)) + 0))), (0, .ref m), (1, .int (iI z1_)), (2, .int (iI ((p : Int))))]) C d_Mo_late_68 4 rfl (by decide) rfl ?_
              refine g_goto C 35 d_Mo_late_71 rfl ?_
              rw [show ((bfc (fun k_ => sDue (s 3 k_)) q p : Nat) : Int) + 0 = ((bfc (fun k_ => sDue (s 3 k_)) (q + 1) p : Nat) : Int) by rw [bfc_s.2 (hz9.elim (fun x_ => absurd x_.1 (by omega)) (fun x_ => x_.2))]; omega]
              exact g_sub [2, 3, 4, 1, 0] rfl (ih35 (q + 1) (by omega) (by first | omega | (dsimp only; omega)))
            · refine g_iconst C d_Mo_late_61 ?_
              refine g_goto C 66 d_Mo_late_62 rfl ?_
              refine g_iadd C d_Mo_late_66 ?_
              refine g_istore_n (lv' := [(3, .int (iI ((((bfc (fun k_ => sDue (s 3 k_)) q p : Nat) : Int)) + 1))), (0, .ref m), (1, .int (iI z1_)), (2, .int (iI ((p : Int)))), (4, .int (iI ((q : Int))))]) C d_Mo_late_67 (by decide) rfl ?_
              refine g_iinc (lv' := [(4, .int (iI (((q : Int)) + 1))), (3, .int (iI ((((bfc (fun k_ => sDue (s 3 k_)) q p : Nat) : Int)) + 1))), (0, .ref m), (1, .int (iI z1_)), (2, .int (iI ((p : Int))))]) C d_Mo_late_68 4 rfl (by decide) rfl ?_
              refine g_goto C 35 d_Mo_late_71 rfl ?_
              rw [show ((bfc (fun k_ => sDue (s 3 k_)) q p : Nat) : Int) + 1 = ((bfc (fun k_ => sDue (s 3 k_)) (q + 1) p : Nat) : Int) by rw [bfc_s.1 (hz9.elim (fun x_ => x_.2) (fun x_ => absurd x_.1 (by omega)))]; omega]
              exact g_sub [2, 3, 4, 1, 0] rfl (ih35 (q + 1) (by omega) (by first | omega | (dsimp only; omega)))
  · refine g_iconst C d_Mo_late_5 ?_
    refine g_goto C 10 d_Mo_late_6 rfl ?_
    refine g_put C p_Mo_98 hM.1 rfl rfl (Nat.le_of_ble_eq_true rfl) (fs' := [.int (iI 1), .int (iI (s 0 0 0)), .int (iI ((np : Int))), .ref (a 0), .ref (a 1), .ref (a 2), .int (iI ((nl : Int))), .ref (a 3), .ref (a 4), .ref (a 5), .ref (a 6), .ref (a 7), .ref (a 8), .int (iI ((nt : Int))), .ref (a 9), .ref (a 10), .ref (a 11), .ref (a 12), .ref (a 13), .ref (a 14), .ref (a 15), .ref (a 16), .ref (a 17), .ref (a 18), .int (iI ((ns : Int))), .ref (a 19), .ref (a 20), .ref (a 21), .ref (a 22), .int (iI (s 0 0 5)), .int (iI v7), .int (iI v8), .int (iI v9), .ref (a 23), .ref (a 24), .ref (a 25), .ref (a 26)]) rfl d_Mo_late_10 ?_
    refine g_abs (X := fun M_ => MA tys M_ m a f 1 (s 0 0 0) ((np : Int)) ((nl : Int)) ((nt : Int)) ((ns : Int)) (s 0 0 5) v7 v8 v9) (MA_V hM 1 (s 0 0 0) ((np : Int)) ((nl : Int)) ((nt : Int)) ((ns : Int)) (s 0 0 5) v7 v8 v9) (fun M11 hM11 => ?_)
    refine g_iconst C d_Mo_late_13 ?_
    refine g_istore_n (lv' := [(2, .int (iI 0)), (0, .ref m), (1, .int (iI z1_))]) C d_Mo_late_14 (by decide) rfl ?_
    refine g_iload_n C d_Mo_late_15 0 rfl ?_
    refine g_aload_n C d_Mo_late_16 1 rfl ?_
    refine g_get C f_Mo_111 hM11.1 rfl d_Mo_late_17 ?_
    refine g_icmp_ge C 87 d_Mo_late_20 rfl (by omega) (fun c12 => ?_) (fun c12 => ?_)
    · refine g_aload_n C d_Mo_late_87 1 rfl ?_
      refine g_get C f_Mo_98 hM11.1 rfl d_Mo_late_88 ?_
      refine g_if_le C 98 d_Mo_late_91 rfl (by omega) (fun c13 => ?_) (fun c13 => ?_)
      · exact absurd c13 (by decide)
      · refine g_iconst C d_Mo_late_94 ?_
        refine g_goto C 99 d_Mo_late_95 rfl ?_
        exact g_iret C hr d_Mo_late_99 (Or.inr ⟨by omega, RM_of hM11 rfl e1.symm e2.symm e3.symm e4.symm rfl e1 e2 e3 e4 hr9 ht9⟩)
    · refine g_aload_n C d_Mo_late_23 1 rfl ?_
      refine g_get C f_Mo_98 hM11.1 rfl d_Mo_late_24 ?_
      refine g_if_ne C 87 d_Mo_late_27 rfl (by omega) (fun c14 => ?_) (fun c14 => ?_)
      · refine g_aload_n C d_Mo_late_87 1 rfl ?_
        refine g_get C f_Mo_98 hM11.1 rfl d_Mo_late_88 ?_
        refine g_if_le C 98 d_Mo_late_91 rfl (by omega) (fun c15 => ?_) (fun c15 => ?_)
        · exact absurd c15 (by decide)
        · refine g_iconst C d_Mo_late_94 ?_
          refine g_goto C 99 d_Mo_late_95 rfl ?_
          exact g_iret C hr d_Mo_late_99 (Or.inr ⟨by omega, RM_of hM11 rfl e1.symm e2.symm e3.symm e4.symm rfl e1 e2 e3 e4 hr9 ht9⟩)
      · exact absurd c14 (by decide)
