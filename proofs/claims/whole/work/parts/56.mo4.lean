/-! THE MODEL, its face, on: written by program (wip/whole/gen/mo4.py) -/
theorem up_self {f : Nat → Int} {k : Nat} {v : Int} (h : f k = v) : va_up f k v = f := by
  funext j
  unfold va_up
  by_cases e : j = k
  · rw [if_pos e, e, h]
  · rw [if_neg e]
set_option maxHeartbeats 4000000 in
set_option maxRecDepth 100000 in
theorem ct_Mo_used (l : Launch) (D : va_G) (tys : xK) (A : Nat → Prop) (M : Wm) (hT : tyOK tys) (m : Nat) (s : AS) (th : Int) (np nl nt ns : Nat) (hS : okS s np nl nt ns) (hTk : TOK s nl nt ns) (z1_ z2_ z3_ : Int) (hz1 : (-2147483648 ≤ z1_ ∧ z1_ < 2147483648)) (hz2 : (-2147483648 ≤ z2_ ∧ z2_ < 2147483648)) (hz3 : (-2147483648 ≤ z3_ ∧ z3_ < 2147483648))  (hRM : RM tys M m s th) : mT l y_Mo_used b_Mo_used 4 (some .int) { frames := 2, cells := 0, slots := 0, locals := 43 } D tys A [.ref m, .int (iI z1_), .int (iI z2_), .int (iI z3_)] M (qI D A (fun z M' => ((((0 ≤ z1_ ∧ z1_ < s 0 0 3) ∧ (0 ≤ z2_ ∧ z2_ ≤ 100000) ∧ (1 ≤ z3_ ∧ z3_ ≤ 1000)) ∧ s 3 z1_.toNat 7 ≤ z2_) ∧ z = s 3 z1_.toNat 6 + z3_ ∧ RM tys M' m (sUse s z1_.toNat z2_ z3_) 0) ∨ (¬ (((0 ≤ z1_ ∧ z1_ < s 0 0 3) ∧ (0 ≤ z2_ ∧ z2_ ≤ 100000) ∧ (1 ≤ z3_ ∧ z3_ ≤ 1000)) ∧ s 3 z1_.toNat 7 ≤ z2_) ∧ RM tys M' m s 1))) 0 0 := by
  refine met_of (own := R_Mo) (lv := [(0, .ref m), (1, .int (iI z1_)), (2, .int (iI z2_)), (3, .int (iI z3_))]) rfl (by decide) (Nat.le_of_ble_eq_true rfl) rfl ?_
  intro p_ e_ s_ m_ bl_ me_ c_ C hr hin
  have hT9 := hT
  obtain ⟨hT0, hT1, hT2, hT3, hT4, hT5, hT32, hT42, hT52, hT43, hT53, hT54⟩ := hT
  obtain ⟨a, f, v7, v8, v9, hM, hr9, ht9⟩ := RM_to hS hRM
  have hwho : -1 ≤ s 0 0 5 ∧ s 0 0 5 < (ns : Int) := by
    rcases hTk with ⟨h_, -⟩ | ⟨w_, cn_, dn_, h1_, h2_, -⟩ <;> omega
  obtain ⟨hv8, hv9, hvt⟩ := id ht9
  have hS0 := hS
  obtain ⟨⟨e1, e2, e3, e4⟩, ⟨b1_, b2_, b3_, b4_⟩, b5_, okp, oklf, okt, oku, oksp, okg, oku6⟩ := hS
  obtain ⟨rp, rl, rt, rz, re, rs⟩ := id hr9
  refine g_aload_n C d_Mo_used_0 0 rfl ?_
  refine g_aload_n C d_Mo_used_1 0 rfl ?_
  refine g_iload_n C d_Mo_used_2 1 rfl ?_
  refine g_calliP C (run_V C [.int (iI z1_)] k_Mo_118 (ct_Mo_isPart l D tys A M hT9 m a f th (s 0 0 0) ((np : Int)) ((nl : Int)) ((ns : Int)) (s 0 0 5) v7 v8 v9 nt z1_ (by omega) (by omega) hM) hM.1 ⟨rfl, rfl, Nat.le_of_ble_eq_true rfl, Nat.le_of_ble_eq_true rfl⟩ rfl rfl (Nat.le_of_ble_eq_true rfl) d_Mo_used_3 ⟨Nat.le_of_ble_eq_true rfl, Nat.le_of_ble_eq_true rfl⟩) (fun z1 hz1 => ?_)
  refine g_if_eq C 50 d_Mo_used_6 rfl (by omega) (fun c2 => ?_) (fun c2 => ?_)
  · refine g_iconst C d_Mo_used_50 ?_
    refine g_goto C 55 d_Mo_used_51 rfl ?_
    refine g_put C p_Mo_98 hM.1 rfl rfl (Nat.le_of_ble_eq_true rfl) (fs' := [.int (iI 1), .int (iI (s 0 0 0)), .int (iI ((np : Int))), .ref (a 0), .ref (a 1), .ref (a 2), .int (iI ((nl : Int))), .ref (a 3), .ref (a 4), .ref (a 5), .ref (a 6), .ref (a 7), .ref (a 8), .int (iI ((nt : Int))), .ref (a 9), .ref (a 10), .ref (a 11), .ref (a 12), .ref (a 13), .ref (a 14), .ref (a 15), .ref (a 16), .ref (a 17), .ref (a 18), .int (iI ((ns : Int))), .ref (a 19), .ref (a 20), .ref (a 21), .ref (a 22), .int (iI (s 0 0 5)), .int (iI v7), .int (iI v8), .int (iI v9), .ref (a 23), .ref (a 24), .ref (a 25), .ref (a 26)]) rfl d_Mo_used_55 ?_
    refine g_abs (X := fun M_ => MA tys M_ m a f 1 (s 0 0 0) ((np : Int)) ((nl : Int)) ((nt : Int)) ((ns : Int)) (s 0 0 5) v7 v8 v9) (MA_V hM 1 (s 0 0 0) ((np : Int)) ((nl : Int)) ((nt : Int)) ((ns : Int)) (s 0 0 5) v7 v8 v9) (fun M3 hM3 => ?_)
    refine g_aload_n C d_Mo_used_58 0 rfl ?_
    refine g_get C f_Mo_98 hM3.1 rfl d_Mo_used_59 ?_
    refine g_if_le C 67 d_Mo_used_62 rfl (by omega) (fun c4 => ?_) (fun c4 => ?_)
    · exact absurd c4 (by decide)
    · refine g_iconst C d_Mo_used_65 ?_
      exact g_iret C hr d_Mo_used_66 (Or.inr ⟨by omega, RM_of hM3 rfl e1.symm e2.symm e3.symm e4.symm rfl e1 e2 e3 e4 hr9 ht9⟩)
  · refine g_iload_n C d_Mo_used_9 2 rfl ?_
    refine g_iconst C d_Mo_used_10 ?_
    refine g_ldc C 100000 q_Mo_114 d_Mo_used_11 ?_
    refine g_calliP C (run_S C [.int (iI z2_), .int (iI 0), .int (iI 100000)] k_Mo_101 (ct_Mo_in l D tys A M z2_ 0 100000 (by omega)) ⟨rfl, rfl, Nat.le_of_ble_eq_true rfl, Nat.le_of_ble_eq_true rfl⟩ rfl rfl (Nat.le_of_ble_eq_true rfl) d_Mo_used_13 ⟨Nat.le_of_ble_eq_true rfl, Nat.le_of_ble_eq_true rfl⟩) (fun z5 hz5 => ?_)
    refine g_if_eq C 50 d_Mo_used_16 rfl (by omega) (fun c6 => ?_) (fun c6 => ?_)
    · refine g_iconst C d_Mo_used_50 ?_
      refine g_goto C 55 d_Mo_used_51 rfl ?_
      refine g_put C p_Mo_98 hM.1 rfl rfl (Nat.le_of_ble_eq_true rfl) (fs' := [.int (iI 1), .int (iI (s 0 0 0)), .int (iI ((np : Int))), .ref (a 0), .ref (a 1), .ref (a 2), .int (iI ((nl : Int))), .ref (a 3), .ref (a 4), .ref (a 5), .ref (a 6), .ref (a 7), .ref (a 8), .int (iI ((nt : Int))), .ref (a 9), .ref (a 10), .ref (a 11), .ref (a 12), .ref (a 13), .ref (a 14), .ref (a 15), .ref (a 16), .ref (a 17), .ref (a 18), .int (iI ((ns : Int))), .ref (a 19), .ref (a 20), .ref (a 21), .ref (a 22), .int (iI (s 0 0 5)), .int (iI v7), .int (iI v8), .int (iI v9), .ref (a 23), .ref (a 24), .ref (a 25), .ref (a 26)]) rfl d_Mo_used_55 ?_
      refine g_abs (X := fun M_ => MA tys M_ m a f 1 (s 0 0 0) ((np : Int)) ((nl : Int)) ((nt : Int)) ((ns : Int)) (s 0 0 5) v7 v8 v9) (MA_V hM 1 (s 0 0 0) ((np : Int)) ((nl : Int)) ((nt : Int)) ((ns : Int)) (s 0 0 5) v7 v8 v9) (fun M7 hM7 => ?_)
      refine g_aload_n C d_Mo_used_58 0 rfl ?_
      refine g_get C f_Mo_98 hM7.1 rfl d_Mo_used_59 ?_
      refine g_if_le C 67 d_Mo_used_62 rfl (by omega) (fun c8 => ?_) (fun c8 => ?_)
      · exact absurd c8 (by decide)
      · refine g_iconst C d_Mo_used_65 ?_
        exact g_iret C hr d_Mo_used_66 (Or.inr ⟨by omega, RM_of hM7 rfl e1.symm e2.symm e3.symm e4.symm rfl e1 e2 e3 e4 hr9 ht9⟩)
    · refine g_iload_n C d_Mo_used_19 3 rfl ?_
      refine g_iconst C d_Mo_used_20 ?_
      refine g_sipush C d_Mo_used_21 (by decide) ?_
      refine g_calliP C (run_S C [.int (iI z3_), .int (iI 1), .int (iI 1000)] k_Mo_101 (ct_Mo_in l D tys A M z3_ 1 1000 (by omega)) ⟨rfl, rfl, Nat.le_of_ble_eq_true rfl, Nat.le_of_ble_eq_true rfl⟩ rfl rfl (Nat.le_of_ble_eq_true rfl) d_Mo_used_24 ⟨Nat.le_of_ble_eq_true rfl, Nat.le_of_ble_eq_true rfl⟩) (fun z9 hz9 => ?_)
      refine g_if_eq C 50 d_Mo_used_27 rfl (by omega) (fun c10 => ?_) (fun c10 => ?_)
      · refine g_iconst C d_Mo_used_50 ?_
        refine g_goto C 55 d_Mo_used_51 rfl ?_
        refine g_put C p_Mo_98 hM.1 rfl rfl (Nat.le_of_ble_eq_true rfl) (fs' := [.int (iI 1), .int (iI (s 0 0 0)), .int (iI ((np : Int))), .ref (a 0), .ref (a 1), .ref (a 2), .int (iI ((nl : Int))), .ref (a 3), .ref (a 4), .ref (a 5), .ref (a 6), .ref (a 7), .ref (a 8), .int (iI ((nt : Int))), .ref (a 9), .ref (a 10), .ref (a 11), .ref (a 12), .ref (a 13), .ref (a 14), .ref (a 15), .ref (a 16), .ref (a 17), .ref (a 18), .int (iI ((ns : Int))), .ref (a 19), .ref (a 20), .ref (a 21), .ref (a 22), .int (iI (s 0 0 5)), .int (iI v7), .int (iI v8), .int (iI v9), .ref (a 23), .ref (a 24), .ref (a 25), .ref (a 26)]) rfl d_Mo_used_55 ?_
        refine g_abs (X := fun M_ => MA tys M_ m a f 1 (s 0 0 0) ((np : Int)) ((nl : Int)) ((nt : Int)) ((ns : Int)) (s 0 0 5) v7 v8 v9) (MA_V hM 1 (s 0 0 0) ((np : Int)) ((nl : Int)) ((nt : Int)) ((ns : Int)) (s 0 0 5) v7 v8 v9) (fun M11 hM11 => ?_)
        refine g_aload_n C d_Mo_used_58 0 rfl ?_
        refine g_get C f_Mo_98 hM11.1 rfl d_Mo_used_59 ?_
        refine g_if_le C 67 d_Mo_used_62 rfl (by omega) (fun c12 => ?_) (fun c12 => ?_)
        · exact absurd c12 (by decide)
        · refine g_iconst C d_Mo_used_65 ?_
          exact g_iret C hr d_Mo_used_66 (Or.inr ⟨by omega, RM_of hM11 rfl e1.symm e2.symm e3.symm e4.symm rfl e1 e2 e3 e4 hr9 ht9⟩)
      · obtain ⟨i, rfl⟩ : ∃ i : Nat, z1_ = (i : Int) := ⟨z1_.toNat, by omega⟩
        have hti := rt i (by omega)
        have htio := (okt i (by omega)).1
        have htiu := htio
        unfold okT at htio
        have hti9 := (okt i (by omega)).2
        have hu6 := oku6 i (by omega)
        have hei : ((i : Nat) : Int).toNat = i := by omega
        refine g_iload_n C d_Mo_used_30 2 rfl ?_
        refine g_aload_n C d_Mo_used_31 0 rfl ?_
        refine g_get C f_Mo_61 hM.1 rfl d_Mo_used_32 ?_
        refine g_iload_n C d_Mo_used_35 1 rfl ?_
        refine g_ialdN C 0 hT0 (show M (a 17) = some (aI tys 40 (f 17)) from hM.2.1 17 (by decide)) i (by omega) (by omega) d_Mo_used_36 ?_
        rw [hti.2.2.2.2.2.2.2.2.1]
        refine g_icmp_lt C 50 d_Mo_used_37 rfl (by omega) (fun c13 => ?_) (fun c13 => ?_)
        · refine g_iconst C d_Mo_used_50 ?_
          refine g_goto C 55 d_Mo_used_51 rfl ?_
          refine g_put C p_Mo_98 hM.1 rfl rfl (Nat.le_of_ble_eq_true rfl) (fs' := [.int (iI 1), .int (iI (s 0 0 0)), .int (iI ((np : Int))), .ref (a 0), .ref (a 1), .ref (a 2), .int (iI ((nl : Int))), .ref (a 3), .ref (a 4), .ref (a 5), .ref (a 6), .ref (a 7), .ref (a 8), .int (iI ((nt : Int))), .ref (a 9), .ref (a 10), .ref (a 11), .ref (a 12), .ref (a 13), .ref (a 14), .ref (a 15), .ref (a 16), .ref (a 17), .ref (a 18), .int (iI ((ns : Int))), .ref (a 19), .ref (a 20), .ref (a 21), .ref (a 22), .int (iI (s 0 0 5)), .int (iI v7), .int (iI v8), .int (iI v9), .ref (a 23), .ref (a 24), .ref (a 25), .ref (a 26)]) rfl d_Mo_used_55 ?_
          refine g_abs (X := fun M_ => MA tys M_ m a f 1 (s 0 0 0) ((np : Int)) ((nl : Int)) ((nt : Int)) ((ns : Int)) (s 0 0 5) v7 v8 v9) (MA_V hM 1 (s 0 0 0) ((np : Int)) ((nl : Int)) ((nt : Int)) ((ns : Int)) (s 0 0 5) v7 v8 v9) (fun M14 hM14 => ?_)
          refine g_aload_n C d_Mo_used_58 0 rfl ?_
          refine g_get C f_Mo_98 hM14.1 rfl d_Mo_used_59 ?_
          refine g_if_le C 67 d_Mo_used_62 rfl (by omega) (fun c15 => ?_) (fun c15 => ?_)
          · exact absurd c15 (by decide)
          · refine g_iconst C d_Mo_used_65 ?_
            exact g_iret C hr d_Mo_used_66 (Or.inr ⟨by rw [hei]; omega, RM_of hM14 rfl e1.symm e2.symm e3.symm e4.symm rfl e1 e2 e3 e4 hr9 ht9⟩)
        · refine g_iload_n C d_Mo_used_40 2 rfl ?_
          refine g_aload_n C d_Mo_used_41 0 rfl ?_
          refine g_get C f_Mo_55 hM.1 rfl d_Mo_used_42 ?_
          refine g_iload_n C d_Mo_used_45 1 rfl ?_
          refine g_ialdN C 0 hT0 (show M (a 15) = some (aI tys 40 (f 15)) from hM.2.1 15 (by decide)) i (by omega) (by omega) d_Mo_used_46 ?_
          rw [hti.2.2.2.2.2.2.1]
          refine g_icmp_ge C 54 d_Mo_used_47 rfl (by omega) (fun c16 => ?_) (fun c16 => ?_)
          · refine g_iconst C d_Mo_used_54 ?_
            refine g_put C p_Mo_98 hM.1 rfl rfl (Nat.le_of_ble_eq_true rfl) (fs' := [.int (iI 0), .int (iI (s 0 0 0)), .int (iI ((np : Int))), .ref (a 0), .ref (a 1), .ref (a 2), .int (iI ((nl : Int))), .ref (a 3), .ref (a 4), .ref (a 5), .ref (a 6), .ref (a 7), .ref (a 8), .int (iI ((nt : Int))), .ref (a 9), .ref (a 10), .ref (a 11), .ref (a 12), .ref (a 13), .ref (a 14), .ref (a 15), .ref (a 16), .ref (a 17), .ref (a 18), .int (iI ((ns : Int))), .ref (a 19), .ref (a 20), .ref (a 21), .ref (a 22), .int (iI (s 0 0 5)), .int (iI v7), .int (iI v8), .int (iI v9), .ref (a 23), .ref (a 24), .ref (a 25), .ref (a 26)]) rfl d_Mo_used_55 ?_
            refine g_abs (X := fun M_ => MA tys M_ m a f 0 (s 0 0 0) ((np : Int)) ((nl : Int)) ((nt : Int)) ((ns : Int)) (s 0 0 5) v7 v8 v9) (MA_V hM 0 (s 0 0 0) ((np : Int)) ((nl : Int)) ((nt : Int)) ((ns : Int)) (s 0 0 5) v7 v8 v9) (fun M17 hM17 => ?_)
            refine g_aload_n C d_Mo_used_58 0 rfl ?_
            refine g_get C f_Mo_98 hM17.1 rfl d_Mo_used_59 ?_
            refine g_if_le C 67 d_Mo_used_62 rfl (by omega) (fun c18 => ?_) (fun c18 => ?_)
            · refine g_aload_n C d_Mo_used_67 0 rfl ?_
              refine g_get C f_Mo_58 hM17.1 rfl d_Mo_used_68 ?_
              refine g_iload_n C d_Mo_used_71 1 rfl ?_
              refine g_dup2 C rfl rfl d_Mo_used_72 ?_
              refine g_ialdN C 0 hT0 (show M17 (a 16) = some (aI tys 40 (f 16)) from hM17.2.1 16 (by decide)) i (by omega) (by omega) d_Mo_used_73 ?_
              rw [hti.2.2.2.2.2.2.2.1]
              refine g_iload_n C d_Mo_used_74 3 rfl ?_
              refine g_iadd C d_Mo_used_75 ?_
              refine g_iastN C 0 hT0 (show M17 (a 16) = some (aI tys 40 (f 16)) from hM17.2.1 16 (by decide)) i (by omega) (by omega) d_Mo_used_76 ?_ rfl
              refine g_abs (X := fun M_ => MA tys M_ m a (va_up f 16 (va_up (f 16) i ((s 3 i 6) + z3_))) 0 (s 0 0 0) ((np : Int)) ((nl : Int)) ((nt : Int)) ((ns : Int)) (s 0 0 5) v7 v8 v9) (MA_F hM17 16 (by decide) (va_up (f 16) i ((s 3 i 6) + z3_)) rfl) (fun M19 hM19 => ?_)
              refine g_aload_n C d_Mo_used_77 0 rfl ?_
              refine g_get C f_Mo_61 hM19.1 rfl d_Mo_used_78 ?_
              refine g_iload_n C d_Mo_used_81 1 rfl ?_
              refine g_iload_n C d_Mo_used_82 2 rfl ?_
              refine g_iastN C 0 hT0 (show M19 (a 17) = some (aI tys 40 (f 17)) from hM19.2.1 17 (by decide)) i (by omega) (by omega) d_Mo_used_83 ?_ rfl
              refine g_abs (X := fun M_ => MA tys M_ m a (va_up (va_up f 16 (va_up (f 16) i ((s 3 i 6) + z3_))) 17 (va_up (f 17) i z2_)) 0 (s 0 0 0) ((np : Int)) ((nl : Int)) ((nt : Int)) ((ns : Int)) (s 0 0 5) v7 v8 v9) (MA_F hM19 17 (by decide) (va_up (f 17) i z2_) rfl) (fun M20 hM20 => ?_)
              refine g_aload_n C d_Mo_used_84 0 rfl ?_
              refine g_get C f_Mo_58 hM20.1 rfl d_Mo_used_85 ?_
              refine g_iload_n C d_Mo_used_88 1 rfl ?_
              refine g_ialdN C 0 hT0 (show M20 (a 16) = some (aI tys 40 (va_up (f 16) i ((s 3 i 6) + z3_))) from hM20.2.1 16 (by decide)) i (by omega) (by omega) d_Mo_used_89 ?_
              rw [iu_s]
              refine g_aload_n C d_Mo_used_90 0 rfl ?_
              refine g_get C f_Mo_49 hM20.1 rfl d_Mo_used_91 ?_
              refine g_iload_n C d_Mo_used_94 1 rfl ?_
              refine g_ialdN C 0 hT0 (show M20 (a 13) = some (aI tys 40 (f 13)) from hM20.2.1 13 (by decide)) i (by omega) (by omega) d_Mo_used_95 ?_
              rw [hti.2.2.2.2.1]
              refine g_icmp_lt C 115 d_Mo_used_96 rfl (by omega) (fun c21 => ?_) (fun c21 => ?_)
              · refine g_aload_n C d_Mo_used_115 0 rfl ?_
                refine g_get C f_Mo_58 hM20.1 rfl d_Mo_used_116 ?_
                refine g_iload_n C d_Mo_used_119 1 rfl ?_
                refine g_ialdN C 0 hT0 (show M20 (a 16) = some (aI tys 40 (va_up (f 16) i ((s 3 i 6) + z3_))) from hM20.2.1 16 (by decide)) i (by omega) (by omega) d_Mo_used_120 ?_
                rw [iu_s]
                exact g_iret C hr d_Mo_used_121 (Or.inl ⟨by rw [hei]; omega, by rw [hei], by
                    rw [hei]
                    refine RM_of (s := sUse s i z2_ z3_) hM20 rfl e1.symm e2.symm e3.symm e4.symm rfl e1 e2 e3 e4 ?_ ht9
                    have hif : (if s 3 i 8 = -1 ∧ s 3 i 3 ≤ s 3 i 6 + z3_ then z2_ else s 3 i 8) = s 3 i 8 := if_neg (by omega)
                    refine mR_pt (p := i) (t := va_up (va_up (va_up (s 3 i) 6 (s 3 i 6 + z3_)) 7 z2_) 8 (if s 3 i 8 = -1 ∧ s 3 i 3 ≤ s 3 i 6 + z3_ then z2_ else s 3 i 8)) hr9 (by omega) rfl rfl rfl rfl ⟨rfl, rfl, rfl, rfl, rfl, rfl, by show s 3 i 5 ≤ z2_; omega⟩ (fun j_ hj_ => by
                    repeat rw [wU_n (f := _) (j := j_) (by omega)]) ?_ rfl rfl ?_ rs
                    · exact (up_self hti.2.2.2.2.2.2.1).symm
                    · show _ = va_up (f 18) i (if s 3 i 8 = -1 ∧ s 3 i 3 ≤ s 3 i 6 + z3_ then z2_ else s 3 i 8)
                      rw [hif]
                      exact (up_self hti.2.2.2.2.2.2.2.2.2.1).symm⟩)
              · refine g_aload_n C d_Mo_used_99 0 rfl ?_
                refine g_get C f_Mo_64 hM20.1 rfl d_Mo_used_100 ?_
                refine g_iload_n C d_Mo_used_103 1 rfl ?_
                refine g_ialdN C 0 hT0 (show M20 (a 18) = some (aI tys 40 (f 18)) from hM20.2.1 18 (by decide)) i (by omega) (by omega) d_Mo_used_104 ?_
                rw [hti.2.2.2.2.2.2.2.2.2.1]
                refine g_if_ge C 115 d_Mo_used_105 rfl (by omega) (fun c22 => ?_) (fun c22 => ?_)
                · refine g_aload_n C d_Mo_used_115 0 rfl ?_
                  refine g_get C f_Mo_58 hM20.1 rfl d_Mo_used_116 ?_
                  refine g_iload_n C d_Mo_used_119 1 rfl ?_
                  refine g_ialdN C 0 hT0 (show M20 (a 16) = some (aI tys 40 (va_up (f 16) i ((s 3 i 6) + z3_))) from hM20.2.1 16 (by decide)) i (by omega) (by omega) d_Mo_used_120 ?_
                  rw [iu_s]
                  exact g_iret C hr d_Mo_used_121 (Or.inl ⟨by rw [hei]; omega, by rw [hei], by
                      rw [hei]
                      refine RM_of (s := sUse s i z2_ z3_) hM20 rfl e1.symm e2.symm e3.symm e4.symm rfl e1 e2 e3 e4 ?_ ht9
                      have hif : (if s 3 i 8 = -1 ∧ s 3 i 3 ≤ s 3 i 6 + z3_ then z2_ else s 3 i 8) = s 3 i 8 := if_neg (by omega)
                      refine mR_pt (p := i) (t := va_up (va_up (va_up (s 3 i) 6 (s 3 i 6 + z3_)) 7 z2_) 8 (if s 3 i 8 = -1 ∧ s 3 i 3 ≤ s 3 i 6 + z3_ then z2_ else s 3 i 8)) hr9 (by omega) rfl rfl rfl rfl ⟨rfl, rfl, rfl, rfl, rfl, rfl, by show s 3 i 5 ≤ z2_; omega⟩ (fun j_ hj_ => by
                      repeat rw [wU_n (f := _) (j := j_) (by omega)]) ?_ rfl rfl ?_ rs
                      · exact (up_self hti.2.2.2.2.2.2.1).symm
                      · show _ = va_up (f 18) i (if s 3 i 8 = -1 ∧ s 3 i 3 ≤ s 3 i 6 + z3_ then z2_ else s 3 i 8)
                        rw [hif]
                        exact (up_self hti.2.2.2.2.2.2.2.2.2.1).symm⟩)
                · refine g_aload_n C d_Mo_used_108 0 rfl ?_
                  refine g_get C f_Mo_64 hM20.1 rfl d_Mo_used_109 ?_
                  refine g_iload_n C d_Mo_used_112 1 rfl ?_
                  refine g_iload_n C d_Mo_used_113 2 rfl ?_
                  refine g_iastN C 0 hT0 (show M20 (a 18) = some (aI tys 40 (f 18)) from hM20.2.1 18 (by decide)) i (by omega) (by omega) d_Mo_used_114 ?_ rfl
                  refine g_abs (X := fun M_ => MA tys M_ m a (va_up (va_up (va_up f 16 (va_up (f 16) i ((s 3 i 6) + z3_))) 17 (va_up (f 17) i z2_)) 18 (va_up (f 18) i z2_)) 0 (s 0 0 0) ((np : Int)) ((nl : Int)) ((nt : Int)) ((ns : Int)) (s 0 0 5) v7 v8 v9) (MA_F hM20 18 (by decide) (va_up (f 18) i z2_) rfl) (fun M23 hM23 => ?_)
                  refine g_aload_n C d_Mo_used_115 0 rfl ?_
                  refine g_get C f_Mo_58 hM23.1 rfl d_Mo_used_116 ?_
                  refine g_iload_n C d_Mo_used_119 1 rfl ?_
                  refine g_ialdN C 0 hT0 (show M23 (a 16) = some (aI tys 40 (va_up (f 16) i ((s 3 i 6) + z3_))) from hM23.2.1 16 (by decide)) i (by omega) (by omega) d_Mo_used_120 ?_
                  rw [iu_s]
                  exact g_iret C hr d_Mo_used_121 (Or.inl ⟨by rw [hei]; omega, by rw [hei], by
                      rw [hei]
                      refine RM_of (s := sUse s i z2_ z3_) hM23 rfl e1.symm e2.symm e3.symm e4.symm rfl e1 e2 e3 e4 ?_ ht9
                      have hif : (if s 3 i 8 = -1 ∧ s 3 i 3 ≤ s 3 i 6 + z3_ then z2_ else s 3 i 8) = z2_ := if_pos (by omega)
                      refine mR_pt (p := i) (t := va_up (va_up (va_up (s 3 i) 6 (s 3 i 6 + z3_)) 7 z2_) 8 (if s 3 i 8 = -1 ∧ s 3 i 3 ≤ s 3 i 6 + z3_ then z2_ else s 3 i 8)) hr9 (by omega) rfl rfl rfl rfl ⟨rfl, rfl, rfl, rfl, rfl, rfl, by show s 3 i 5 ≤ z2_; omega⟩ (fun j_ hj_ => by
                      repeat rw [wU_n (f := _) (j := j_) (by omega)]) ?_ rfl rfl ?_ rs
                      · exact (up_self hti.2.2.2.2.2.2.1).symm
                      · show _ = va_up (f 18) i (if s 3 i 8 = -1 ∧ s 3 i 3 ≤ s 3 i 6 + z3_ then z2_ else s 3 i 8)
                        rw [hif]
                        rfl⟩)
            · exact absurd c18 (by decide)
          · refine g_iconst C d_Mo_used_50 ?_
            refine g_goto C 55 d_Mo_used_51 rfl ?_
            refine g_put C p_Mo_98 hM.1 rfl rfl (Nat.le_of_ble_eq_true rfl) (fs' := [.int (iI 1), .int (iI (s 0 0 0)), .int (iI ((np : Int))), .ref (a 0), .ref (a 1), .ref (a 2), .int (iI ((nl : Int))), .ref (a 3), .ref (a 4), .ref (a 5), .ref (a 6), .ref (a 7), .ref (a 8), .int (iI ((nt : Int))), .ref (a 9), .ref (a 10), .ref (a 11), .ref (a 12), .ref (a 13), .ref (a 14), .ref (a 15), .ref (a 16), .ref (a 17), .ref (a 18), .int (iI ((ns : Int))), .ref (a 19), .ref (a 20), .ref (a 21), .ref (a 22), .int (iI (s 0 0 5)), .int (iI v7), .int (iI v8), .int (iI v9), .ref (a 23), .ref (a 24), .ref (a 25), .ref (a 26)]) rfl d_Mo_used_55 ?_
            refine g_abs (X := fun M_ => MA tys M_ m a f 1 (s 0 0 0) ((np : Int)) ((nl : Int)) ((nt : Int)) ((ns : Int)) (s 0 0 5) v7 v8 v9) (MA_V hM 1 (s 0 0 0) ((np : Int)) ((nl : Int)) ((nt : Int)) ((ns : Int)) (s 0 0 5) v7 v8 v9) (fun M24 hM24 => ?_)
            refine g_aload_n C d_Mo_used_58 0 rfl ?_
            refine g_get C f_Mo_98 hM24.1 rfl d_Mo_used_59 ?_
            refine g_if_le C 67 d_Mo_used_62 rfl (by omega) (fun c25 => ?_) (fun c25 => ?_)
            · exact absurd c25 (by decide)
            · refine g_iconst C d_Mo_used_65 ?_
              exact g_iret C hr d_Mo_used_66 (Or.inr ⟨by rw [hei]; omega, RM_of hM24 rfl e1.symm e2.symm e3.symm e4.symm rfl e1 e2 e3 e4 hr9 ht9⟩)
set_option maxHeartbeats 4000000 in
set_option maxRecDepth 100000 in
theorem ct_Mo_due (l : Launch) (D : va_G) (tys : xK) (A : Nat → Prop) (M : Wm) (hT : tyOK tys) (m : Nat) (s : AS) (th : Int) (np nl nt ns : Nat) (hS : okS s np nl nt ns) (hTk : TOK s nl nt ns) (z1_ : Int) (hz1 : (-2147483648 ≤ z1_ ∧ z1_ < 2147483648))  (hRM : RM tys M m s th) : mT l y_Mo_due b_Mo_due 2 (some .int) { frames := 2, cells := 0, slots := 0, locals := 43 } D tys A [.ref m, .int (iI z1_)] M (qI D A (fun z M' => ((0 ≤ z1_ ∧ z1_ < s 0 0 3) ∧ z = sDue (s 3 z1_.toNat) ∧ RM tys M' m s 0) ∨ (¬ (0 ≤ z1_ ∧ z1_ < s 0 0 3) ∧ RM tys M' m s 1))) 0 0 := by
  refine met_of (own := R_Mo) (lv := [(0, .ref m), (1, .int (iI z1_))]) rfl (by decide) (Nat.le_of_ble_eq_true rfl) rfl ?_
  intro p_ e_ s_ m_ bl_ me_ c_ C hr hin
  have hT9 := hT
  obtain ⟨hT0, hT1, hT2, hT3, hT4, hT5, hT32, hT42, hT52, hT43, hT53, hT54⟩ := hT
  obtain ⟨a, f, v7, v8, v9, hM, hr9, ht9⟩ := RM_to hS hRM
  have hwho : -1 ≤ s 0 0 5 ∧ s 0 0 5 < (ns : Int) := by
    rcases hTk with ⟨h_, -⟩ | ⟨w_, cn_, dn_, h1_, h2_, -⟩ <;> omega
  obtain ⟨hv8, hv9, hvt⟩ := id ht9
  have hS0 := hS
  obtain ⟨⟨e1, e2, e3, e4⟩, ⟨b1_, b2_, b3_, b4_⟩, b5_, okp, oklf, okt, oku, oksp, okg, oku6⟩ := hS
  obtain ⟨rp, rl, rt, rz, re, rs⟩ := id hr9
  refine g_aload_n C d_Mo_due_0 0 rfl ?_
  refine g_aload_n C d_Mo_due_1 0 rfl ?_
  refine g_iload_n C d_Mo_due_2 1 rfl ?_
  refine g_calliP C (run_V C [.int (iI z1_)] k_Mo_118 (ct_Mo_isPart l D tys A M hT9 m a f th (s 0 0 0) ((np : Int)) ((nl : Int)) ((ns : Int)) (s 0 0 5) v7 v8 v9 nt z1_ (by omega) (by omega) hM) hM.1 ⟨rfl, rfl, Nat.le_of_ble_eq_true rfl, Nat.le_of_ble_eq_true rfl⟩ rfl rfl (Nat.le_of_ble_eq_true rfl) d_Mo_due_3 ⟨Nat.le_of_ble_eq_true rfl, Nat.le_of_ble_eq_true rfl⟩) (fun z1 hz1 => ?_)
  refine g_if_eq C 13 d_Mo_due_6 rfl (by omega) (fun c2 => ?_) (fun c2 => ?_)
  · refine g_iconst C d_Mo_due_13 ?_
    refine g_put C p_Mo_98 hM.1 rfl rfl (Nat.le_of_ble_eq_true rfl) (fs' := [.int (iI 1), .int (iI (s 0 0 0)), .int (iI ((np : Int))), .ref (a 0), .ref (a 1), .ref (a 2), .int (iI ((nl : Int))), .ref (a 3), .ref (a 4), .ref (a 5), .ref (a 6), .ref (a 7), .ref (a 8), .int (iI ((nt : Int))), .ref (a 9), .ref (a 10), .ref (a 11), .ref (a 12), .ref (a 13), .ref (a 14), .ref (a 15), .ref (a 16), .ref (a 17), .ref (a 18), .int (iI ((ns : Int))), .ref (a 19), .ref (a 20), .ref (a 21), .ref (a 22), .int (iI (s 0 0 5)), .int (iI v7), .int (iI v8), .int (iI v9), .ref (a 23), .ref (a 24), .ref (a 25), .ref (a 26)]) rfl d_Mo_due_14 ?_
    refine g_abs (X := fun M_ => MA tys M_ m a f 1 (s 0 0 0) ((np : Int)) ((nl : Int)) ((nt : Int)) ((ns : Int)) (s 0 0 5) v7 v8 v9) (MA_V hM 1 (s 0 0 0) ((np : Int)) ((nl : Int)) ((nt : Int)) ((ns : Int)) (s 0 0 5) v7 v8 v9) (fun M3 hM3 => ?_)
    refine g_aload_n C d_Mo_due_17 0 rfl ?_
    refine g_get C f_Mo_98 hM3.1 rfl d_Mo_due_18 ?_
    refine g_if_le C 28 d_Mo_due_21 rfl (by omega) (fun c4 => ?_) (fun c4 => ?_)
    · exact absurd c4 (by decide)
    · refine g_iconst C d_Mo_due_24 ?_
      refine g_goto C 33 d_Mo_due_25 rfl ?_
      exact g_iret C hr d_Mo_due_33 (Or.inr ⟨by omega, RM_of hM3 rfl e1.symm e2.symm e3.symm e4.symm rfl e1 e2 e3 e4 hr9 ht9⟩)
  · refine g_iconst C d_Mo_due_9 ?_
    refine g_goto C 14 d_Mo_due_10 rfl ?_
    refine g_put C p_Mo_98 hM.1 rfl rfl (Nat.le_of_ble_eq_true rfl) (fs' := [.int (iI 0), .int (iI (s 0 0 0)), .int (iI ((np : Int))), .ref (a 0), .ref (a 1), .ref (a 2), .int (iI ((nl : Int))), .ref (a 3), .ref (a 4), .ref (a 5), .ref (a 6), .ref (a 7), .ref (a 8), .int (iI ((nt : Int))), .ref (a 9), .ref (a 10), .ref (a 11), .ref (a 12), .ref (a 13), .ref (a 14), .ref (a 15), .ref (a 16), .ref (a 17), .ref (a 18), .int (iI ((ns : Int))), .ref (a 19), .ref (a 20), .ref (a 21), .ref (a 22), .int (iI (s 0 0 5)), .int (iI v7), .int (iI v8), .int (iI v9), .ref (a 23), .ref (a 24), .ref (a 25), .ref (a 26)]) rfl d_Mo_due_14 ?_
    refine g_abs (X := fun M_ => MA tys M_ m a f 0 (s 0 0 0) ((np : Int)) ((nl : Int)) ((nt : Int)) ((ns : Int)) (s 0 0 5) v7 v8 v9) (MA_V hM 0 (s 0 0 0) ((np : Int)) ((nl : Int)) ((nt : Int)) ((ns : Int)) (s 0 0 5) v7 v8 v9) (fun M5 hM5 => ?_)
    refine g_aload_n C d_Mo_due_17 0 rfl ?_
    refine g_get C f_Mo_98 hM5.1 rfl d_Mo_due_18 ?_
    refine g_if_le C 28 d_Mo_due_21 rfl (by omega) (fun c6 => ?_) (fun c6 => ?_)
    · obtain ⟨i, rfl⟩ : ∃ i : Nat, z1_ = (i : Int) := ⟨z1_.toNat, by omega⟩
      refine g_aload_n C d_Mo_due_28 0 rfl ?_
      refine g_iload_n C d_Mo_due_29 1 rfl ?_
      refine g_calliP C (run_V C [.int (iI ((i : Int)))] k_Mo_129 (ct_Mo_dueDay l D tys A M5 hT9 m a f 0 (s 0 0 0) ((np : Int)) ((nl : Int)) ((nt : Int)) ((ns : Int)) (s 0 0 5) v7 v8 v9 s np nl nt ns hS0 hr9 i (by omega) hM5) hM5.1 ⟨rfl, rfl, Nat.le_of_ble_eq_true rfl, Nat.le_of_ble_eq_true rfl⟩ rfl rfl (Nat.le_of_ble_eq_true rfl) d_Mo_due_30 ⟨Nat.le_of_ble_eq_true rfl, Nat.le_of_ble_eq_true rfl⟩) (fun z7 hz7 => ?_)
      subst hz7
      have hdz7 := sDue_b (okt i (by omega)).1
      exact g_iret C hr d_Mo_due_33 (Or.inl ⟨by omega, rfl, RM_of hM5 rfl e1.symm e2.symm e3.symm e4.symm rfl e1 e2 e3 e4 hr9 ht9⟩)
    · exact absurd c6 (by decide)
set_option maxHeartbeats 4000000 in
set_option maxRecDepth 100000 in
theorem ct_Mo_walk (l : Launch) (D : va_G) (tys : xK) (A : Nat → Prop) (M : Wm) (hT : tyOK tys) (m : Nat) (s : AS) (th : Int) (np nl nt ns : Nat) (hS : okS s np nl nt ns) (hTk : TOK s nl nt ns) (z1_ z2_ : Int) (hz1 : (-2147483648 ≤ z1_ ∧ z1_ < 2147483648)) (hz2 : (-2147483648 ≤ z2_ ∧ z2_ < 2147483648))  (hRM : RM tys M m s th) : mT l y_Mo_walk b_Mo_walk 3 (some .int) { frames := 2, cells := 0, slots := 0, locals := 49 } D tys A [.ref m, .int (iI z1_), .int (iI z2_)] M (qI D A (fun z M' => (((0 ≤ z1_ ∧ z1_ < s 0 0 1) ∧ (0 ≤ z2_ ∧ z2_ < s 0 0 1)) ∧ z = sWay (s 0 0 2).toNat (s 2) (s 1 z1_.toNat) (s 1 z2_.toNat) ∧ RM tys M' m s 0) ∨ (¬ ((0 ≤ z1_ ∧ z1_ < s 0 0 1) ∧ (0 ≤ z2_ ∧ z2_ < s 0 0 1)) ∧ RM tys M' m s 1))) 0 0 := by
  refine met_of (own := R_Mo) (lv := [(0, .ref m), (1, .int (iI z1_)), (2, .int (iI z2_))]) rfl (by decide) (Nat.le_of_ble_eq_true rfl) rfl ?_
  intro p_ e_ s_ m_ bl_ me_ c_ C hr hin
  have hT9 := hT
  obtain ⟨hT0, hT1, hT2, hT3, hT4, hT5, hT32, hT42, hT52, hT43, hT53, hT54⟩ := hT
  obtain ⟨a, f, v7, v8, v9, hM, hr9, ht9⟩ := RM_to hS hRM
  have hwho : -1 ≤ s 0 0 5 ∧ s 0 0 5 < (ns : Int) := by
    rcases hTk with ⟨h_, -⟩ | ⟨w_, cn_, dn_, h1_, h2_, -⟩ <;> omega
  obtain ⟨hv8, hv9, hvt⟩ := id ht9
  have hS0 := hS
  obtain ⟨⟨e1, e2, e3, e4⟩, ⟨b1_, b2_, b3_, b4_⟩, b5_, okp, oklf, okt, oku, oksp, okg, oku6⟩ := hS
  obtain ⟨rp, rl, rt, rz, re, rs⟩ := id hr9
  refine g_aload_n C d_Mo_walk_0 0 rfl ?_
  refine g_iload_n C d_Mo_walk_1 1 rfl ?_
  refine g_iconst C d_Mo_walk_2 ?_
  refine g_aload_n C d_Mo_walk_3 0 rfl ?_
  refine g_get C f_Mo_105 hM.1 rfl d_Mo_walk_4 ?_
  refine g_iconst C d_Mo_walk_7 ?_
  refine g_isub C d_Mo_walk_8 ?_
  refine g_calliP C (run_S C [.int (iI z1_), .int (iI 0), .int (iI (((np : Int)) - 1))] k_Mo_101 (ct_Mo_in l D tys A M z1_ 0 (((np : Int)) - 1) (by omega)) ⟨rfl, rfl, Nat.le_of_ble_eq_true rfl, Nat.le_of_ble_eq_true rfl⟩ rfl rfl (Nat.le_of_ble_eq_true rfl) d_Mo_walk_9 ⟨Nat.le_of_ble_eq_true rfl, Nat.le_of_ble_eq_true rfl⟩) (fun z1 hz1 => ?_)
  refine g_if_eq C 29 d_Mo_walk_12 rfl (by omega) (fun c2 => ?_) (fun c2 => ?_)
  · refine g_iconst C d_Mo_walk_29 ?_
    refine g_goto C 34 d_Mo_walk_30 rfl ?_
    refine g_put C p_Mo_98 hM.1 rfl rfl (Nat.le_of_ble_eq_true rfl) (fs' := [.int (iI 1), .int (iI (s 0 0 0)), .int (iI ((np : Int))), .ref (a 0), .ref (a 1), .ref (a 2), .int (iI ((nl : Int))), .ref (a 3), .ref (a 4), .ref (a 5), .ref (a 6), .ref (a 7), .ref (a 8), .int (iI ((nt : Int))), .ref (a 9), .ref (a 10), .ref (a 11), .ref (a 12), .ref (a 13), .ref (a 14), .ref (a 15), .ref (a 16), .ref (a 17), .ref (a 18), .int (iI ((ns : Int))), .ref (a 19), .ref (a 20), .ref (a 21), .ref (a 22), .int (iI (s 0 0 5)), .int (iI v7), .int (iI v8), .int (iI v9), .ref (a 23), .ref (a 24), .ref (a 25), .ref (a 26)]) rfl d_Mo_walk_34 ?_
    refine g_abs (X := fun M_ => MA tys M_ m a f 1 (s 0 0 0) ((np : Int)) ((nl : Int)) ((nt : Int)) ((ns : Int)) (s 0 0 5) v7 v8 v9) (MA_V hM 1 (s 0 0 0) ((np : Int)) ((nl : Int)) ((nt : Int)) ((ns : Int)) (s 0 0 5) v7 v8 v9) (fun M3 hM3 => ?_)
    refine g_aload_n C d_Mo_walk_37 0 rfl ?_
    refine g_get C f_Mo_98 hM3.1 rfl d_Mo_walk_38 ?_
    refine g_if_le C 48 d_Mo_walk_41 rfl (by omega) (fun c4 => ?_) (fun c4 => ?_)
    · exact absurd c4 (by decide)
    · refine g_iconst C d_Mo_walk_44 ?_
      refine g_goto C 54 d_Mo_walk_45 rfl ?_
      exact g_iret C hr d_Mo_walk_54 (Or.inr ⟨by omega, RM_of hM3 rfl e1.symm e2.symm e3.symm e4.symm rfl e1 e2 e3 e4 hr9 ht9⟩)
  · refine g_iload_n C d_Mo_walk_15 2 rfl ?_
    refine g_iconst C d_Mo_walk_16 ?_
    refine g_aload_n C d_Mo_walk_17 0 rfl ?_
    refine g_get C f_Mo_105 hM.1 rfl d_Mo_walk_18 ?_
    refine g_iconst C d_Mo_walk_21 ?_
    refine g_isub C d_Mo_walk_22 ?_
    refine g_calliP C (run_S C [.int (iI z2_), .int (iI 0), .int (iI (((np : Int)) - 1))] k_Mo_101 (ct_Mo_in l D tys A M z2_ 0 (((np : Int)) - 1) (by omega)) ⟨rfl, rfl, Nat.le_of_ble_eq_true rfl, Nat.le_of_ble_eq_true rfl⟩ rfl rfl (Nat.le_of_ble_eq_true rfl) d_Mo_walk_23 ⟨Nat.le_of_ble_eq_true rfl, Nat.le_of_ble_eq_true rfl⟩) (fun z5 hz5 => ?_)
    refine g_if_ne C 33 d_Mo_walk_26 rfl (by omega) (fun c6 => ?_) (fun c6 => ?_)
    · refine g_iconst C d_Mo_walk_33 ?_
      refine g_put C p_Mo_98 hM.1 rfl rfl (Nat.le_of_ble_eq_true rfl) (fs' := [.int (iI 0), .int (iI (s 0 0 0)), .int (iI ((np : Int))), .ref (a 0), .ref (a 1), .ref (a 2), .int (iI ((nl : Int))), .ref (a 3), .ref (a 4), .ref (a 5), .ref (a 6), .ref (a 7), .ref (a 8), .int (iI ((nt : Int))), .ref (a 9), .ref (a 10), .ref (a 11), .ref (a 12), .ref (a 13), .ref (a 14), .ref (a 15), .ref (a 16), .ref (a 17), .ref (a 18), .int (iI ((ns : Int))), .ref (a 19), .ref (a 20), .ref (a 21), .ref (a 22), .int (iI (s 0 0 5)), .int (iI v7), .int (iI v8), .int (iI v9), .ref (a 23), .ref (a 24), .ref (a 25), .ref (a 26)]) rfl d_Mo_walk_34 ?_
      refine g_abs (X := fun M_ => MA tys M_ m a f 0 (s 0 0 0) ((np : Int)) ((nl : Int)) ((nt : Int)) ((ns : Int)) (s 0 0 5) v7 v8 v9) (MA_V hM 0 (s 0 0 0) ((np : Int)) ((nl : Int)) ((nt : Int)) ((ns : Int)) (s 0 0 5) v7 v8 v9) (fun M7 hM7 => ?_)
      refine g_aload_n C d_Mo_walk_37 0 rfl ?_
      refine g_get C f_Mo_98 hM7.1 rfl d_Mo_walk_38 ?_
      refine g_if_le C 48 d_Mo_walk_41 rfl (by omega) (fun c8 => ?_) (fun c8 => ?_)
      · obtain ⟨i, rfl⟩ : ∃ i : Nat, z1_ = (i : Int) := ⟨z1_.toNat, by omega⟩
        obtain ⟨j, rfl⟩ : ∃ j : Nat, z2_ = (j : Int) := ⟨z2_.toNat, by omega⟩
        refine g_aload_n C d_Mo_walk_48 0 rfl ?_
        refine g_iload_n C d_Mo_walk_49 1 rfl ?_
        refine g_iload_n C d_Mo_walk_50 2 rfl ?_
        refine g_calliP C (run_V C [.int (iI ((i : Int))), .int (iI ((j : Int)))] k_Mo_126 (ct_Mo_way l D tys A M7 hT9 m a f 0 (s 0 0 0) ((np : Int)) ((nt : Int)) ((ns : Int)) (s 0 0 5) v7 v8 v9 s np nl nt ns hS0 hr9 i j (by omega) (by omega) hM7) hM7.1 ⟨rfl, rfl, Nat.le_of_ble_eq_true rfl, Nat.le_of_ble_eq_true rfl⟩ rfl rfl (Nat.le_of_ble_eq_true rfl) d_Mo_walk_51 ⟨Nat.le_of_ble_eq_true rfl, Nat.le_of_ble_eq_true rfl⟩) (fun z9 hz9 => ?_)
        have hbz9 := sWay_b (nl := nl) oklf (okp i (by omega)) (okp j (by omega))
        exact g_iret C hr d_Mo_walk_54 (Or.inl ⟨by omega, by rw [show (s 0 0 2).toNat = nl by omega]; exact hz9, RM_of hM7 rfl e1.symm e2.symm e3.symm e4.symm rfl e1 e2 e3 e4 hr9 ht9⟩)
      · exact absurd c8 (by decide)
    · refine g_iconst C d_Mo_walk_29 ?_
      refine g_goto C 34 d_Mo_walk_30 rfl ?_
      refine g_put C p_Mo_98 hM.1 rfl rfl (Nat.le_of_ble_eq_true rfl) (fs' := [.int (iI 1), .int (iI (s 0 0 0)), .int (iI ((np : Int))), .ref (a 0), .ref (a 1), .ref (a 2), .int (iI ((nl : Int))), .ref (a 3), .ref (a 4), .ref (a 5), .ref (a 6), .ref (a 7), .ref (a 8), .int (iI ((nt : Int))), .ref (a 9), .ref (a 10), .ref (a 11), .ref (a 12), .ref (a 13), .ref (a 14), .ref (a 15), .ref (a 16), .ref (a 17), .ref (a 18), .int (iI ((ns : Int))), .ref (a 19), .ref (a 20), .ref (a 21), .ref (a 22), .int (iI (s 0 0 5)), .int (iI v7), .int (iI v8), .int (iI v9), .ref (a 23), .ref (a 24), .ref (a 25), .ref (a 26)]) rfl d_Mo_walk_34 ?_
      refine g_abs (X := fun M_ => MA tys M_ m a f 1 (s 0 0 0) ((np : Int)) ((nl : Int)) ((nt : Int)) ((ns : Int)) (s 0 0 5) v7 v8 v9) (MA_V hM 1 (s 0 0 0) ((np : Int)) ((nl : Int)) ((nt : Int)) ((ns : Int)) (s 0 0 5) v7 v8 v9) (fun M10 hM10 => ?_)
      refine g_aload_n C d_Mo_walk_37 0 rfl ?_
      refine g_get C f_Mo_98 hM10.1 rfl d_Mo_walk_38 ?_
      refine g_if_le C 48 d_Mo_walk_41 rfl (by omega) (fun c11 => ?_) (fun c11 => ?_)
      · exact absurd c11 (by decide)
      · refine g_iconst C d_Mo_walk_44 ?_
        refine g_goto C 54 d_Mo_walk_45 rfl ?_
        exact g_iret C hr d_Mo_walk_54 (Or.inr ⟨by omega, RM_of hM10 rfl e1.symm e2.symm e3.symm e4.symm rfl e1 e2 e3 e4 hr9 ht9⟩)
set_option maxHeartbeats 4000000 in
set_option maxRecDepth 100000 in
theorem ct_Mo_wanted (l : Launch) (D : va_G) (tys : xK) (A : Nat → Prop) (M : Wm) (hT : tyOK tys) (m : Nat) (s : AS) (th : Int) (np nl nt ns : Nat) (hS : okS s np nl nt ns) (hTk : TOK s nl nt ns) (z1_ z2_ : Int) (hz1 : (-2147483648 ≤ z1_ ∧ z1_ < 2147483648)) (hz2 : (-2147483648 ≤ z2_ ∧ z2_ < 2147483648))  (hRM : RM tys M m s th) : mT l y_Mo_wanted b_Mo_wanted 5 (some .int) { frames := 1, cells := 0, slots := 0, locals := 22 } D tys A [.ref m, .int (iI z1_), .int (iI z2_)] M (qI D A (fun z M' => (((0 ≤ z1_ ∧ z1_ ≤ 4) ∧ (0 ≤ z2_ ∧ z2_ ≤ 100000)) ∧ ((s 5 0 z1_.toNat < sCnt s z1_ z2_ (s 0 0 3).toNat ∧ z = sCnt s z1_ z2_ (s 0 0 3).toNat - s 5 0 z1_.toNat) ∨ (¬ s 5 0 z1_.toNat < sCnt s z1_ z2_ (s 0 0 3).toNat ∧ z = 0)) ∧ RM tys M' m s 0) ∨ (¬ ((0 ≤ z1_ ∧ z1_ ≤ 4) ∧ (0 ≤ z2_ ∧ z2_ ≤ 100000)) ∧ RM tys M' m s 1))) 0 0 := by
  refine met_of (own := R_Mo) (lv := [(0, .ref m), (1, .int (iI z1_)), (2, .int (iI z2_))]) rfl (by decide) (Nat.le_of_ble_eq_true rfl) rfl ?_
  intro p_ e_ s_ m_ bl_ me_ c_ C hr hin
  have hT9 := hT
  obtain ⟨hT0, hT1, hT2, hT3, hT4, hT5, hT32, hT42, hT52, hT43, hT53, hT54⟩ := hT
  obtain ⟨a, f, v7, v8, v9, hM, hr9, ht9⟩ := RM_to hS hRM
  have hwho : -1 ≤ s 0 0 5 ∧ s 0 0 5 < (ns : Int) := by
    rcases hTk with ⟨h_, -⟩ | ⟨w_, cn_, dn_, h1_, h2_, -⟩ <;> omega
  obtain ⟨hv8, hv9, hvt⟩ := id ht9
  have hS0 := hS
  obtain ⟨⟨e1, e2, e3, e4⟩, ⟨b1_, b2_, b3_, b4_⟩, b5_, okp, oklf, okt, oku, oksp, okg, oku6⟩ := hS
  obtain ⟨rp, rl, rt, rz, re, rs⟩ := id hr9
  refine g_aload_n C d_Mo_wanted_0 0 rfl ?_
  refine g_iload_n C d_Mo_wanted_1 1 rfl ?_
  refine g_iconst C d_Mo_wanted_2 ?_
  refine g_iconst C d_Mo_wanted_3 ?_
  refine g_calliP C (run_S C [.int (iI z1_), .int (iI 0), .int (iI 4)] k_Mo_101 (ct_Mo_in l D tys A M z1_ 0 4 (by omega)) ⟨rfl, rfl, Nat.le_of_ble_eq_true rfl, Nat.le_of_ble_eq_true rfl⟩ rfl rfl (Nat.le_of_ble_eq_true rfl) d_Mo_wanted_4 ⟨Nat.le_of_ble_eq_true rfl, Nat.le_of_ble_eq_true rfl⟩) (fun z1 hz1 => ?_)
  refine g_if_eq C 20 d_Mo_wanted_7 rfl (by omega) (fun c2 => ?_) (fun c2 => ?_)
  · refine g_iconst C d_Mo_wanted_20 ?_
    refine g_goto C 25 d_Mo_wanted_21 rfl ?_
    refine g_put C p_Mo_98 hM.1 rfl rfl (Nat.le_of_ble_eq_true rfl) (fs' := [.int (iI 1), .int (iI (s 0 0 0)), .int (iI ((np : Int))), .ref (a 0), .ref (a 1), .ref (a 2), .int (iI ((nl : Int))), .ref (a 3), .ref (a 4), .ref (a 5), .ref (a 6), .ref (a 7), .ref (a 8), .int (iI ((nt : Int))), .ref (a 9), .ref (a 10), .ref (a 11), .ref (a 12), .ref (a 13), .ref (a 14), .ref (a 15), .ref (a 16), .ref (a 17), .ref (a 18), .int (iI ((ns : Int))), .ref (a 19), .ref (a 20), .ref (a 21), .ref (a 22), .int (iI (s 0 0 5)), .int (iI v7), .int (iI v8), .int (iI v9), .ref (a 23), .ref (a 24), .ref (a 25), .ref (a 26)]) rfl d_Mo_wanted_25 ?_
    refine g_abs (X := fun M_ => MA tys M_ m a f 1 (s 0 0 0) ((np : Int)) ((nl : Int)) ((nt : Int)) ((ns : Int)) (s 0 0 5) v7 v8 v9) (MA_V hM 1 (s 0 0 0) ((np : Int)) ((nl : Int)) ((nt : Int)) ((ns : Int)) (s 0 0 5) v7 v8 v9) (fun M3 hM3 => ?_)
    refine g_aload_n C d_Mo_wanted_28 0 rfl ?_
    refine g_get C f_Mo_98 hM3.1 rfl d_Mo_wanted_29 ?_
    refine g_if_le C 37 d_Mo_wanted_32 rfl (by omega) (fun c4 => ?_) (fun c4 => ?_)
    · exact absurd c4 (by decide)
    · refine g_iconst C d_Mo_wanted_35 ?_
      exact g_iret C hr d_Mo_wanted_36 (Or.inr ⟨by omega, RM_of hM3 rfl e1.symm e2.symm e3.symm e4.symm rfl e1 e2 e3 e4 hr9 ht9⟩)
  · refine g_iload_n C d_Mo_wanted_10 2 rfl ?_
    refine g_iconst C d_Mo_wanted_11 ?_
    refine g_ldc C 100000 q_Mo_114 d_Mo_wanted_12 ?_
    refine g_calliP C (run_S C [.int (iI z2_), .int (iI 0), .int (iI 100000)] k_Mo_101 (ct_Mo_in l D tys A M z2_ 0 100000 (by omega)) ⟨rfl, rfl, Nat.le_of_ble_eq_true rfl, Nat.le_of_ble_eq_true rfl⟩ rfl rfl (Nat.le_of_ble_eq_true rfl) d_Mo_wanted_14 ⟨Nat.le_of_ble_eq_true rfl, Nat.le_of_ble_eq_true rfl⟩) (fun z5 hz5 => ?_)
    refine g_if_ne C 24 d_Mo_wanted_17 rfl (by omega) (fun c6 => ?_) (fun c6 => ?_)
    · refine g_iconst C d_Mo_wanted_24 ?_
      refine g_put C p_Mo_98 hM.1 rfl rfl (Nat.le_of_ble_eq_true rfl) (fs' := [.int (iI 0), .int (iI (s 0 0 0)), .int (iI ((np : Int))), .ref (a 0), .ref (a 1), .ref (a 2), .int (iI ((nl : Int))), .ref (a 3), .ref (a 4), .ref (a 5), .ref (a 6), .ref (a 7), .ref (a 8), .int (iI ((nt : Int))), .ref (a 9), .ref (a 10), .ref (a 11), .ref (a 12), .ref (a 13), .ref (a 14), .ref (a 15), .ref (a 16), .ref (a 17), .ref (a 18), .int (iI ((ns : Int))), .ref (a 19), .ref (a 20), .ref (a 21), .ref (a 22), .int (iI (s 0 0 5)), .int (iI v7), .int (iI v8), .int (iI v9), .ref (a 23), .ref (a 24), .ref (a 25), .ref (a 26)]) rfl d_Mo_wanted_25 ?_
      refine g_abs (X := fun M_ => MA tys M_ m a f 0 (s 0 0 0) ((np : Int)) ((nl : Int)) ((nt : Int)) ((ns : Int)) (s 0 0 5) v7 v8 v9) (MA_V hM 0 (s 0 0 0) ((np : Int)) ((nl : Int)) ((nt : Int)) ((ns : Int)) (s 0 0 5) v7 v8 v9) (fun M7 hM7 => ?_)
      refine g_aload_n C d_Mo_wanted_28 0 rfl ?_
      refine g_get C f_Mo_98 hM7.1 rfl d_Mo_wanted_29 ?_
      refine g_if_le C 37 d_Mo_wanted_32 rfl (by omega) (fun c8 => ?_) (fun c8 => ?_)
      · obtain ⟨i, rfl⟩ : ∃ i : Nat, z1_ = (i : Int) := ⟨z1_.toNat, by omega⟩
        have hsi := rs i
        have hsp := oksp i
        refine g_iconst C d_Mo_wanted_37 ?_
        refine g_istore_n (lv' := [(3, .int (iI 0)), (0, .ref m), (1, .int (iI ((i : Int)))), (2, .int (iI z2_))]) C d_Mo_wanted_38 (by decide) rfl ?_
        refine g_iconst C d_Mo_wanted_39 ?_
        refine g_istore (lv' := [(4, .int (iI 0)), (3, .int (iI 0)), (0, .ref m), (1, .int (iI ((i : Int)))), (2, .int (iI z2_))]) C d_Mo_wanted_40 (by decide) rfl ?_
        refine g_sub [2, 3, 4, 1, 0] rfl (g_loop (σ := Nat) (fun q_ => nt - q_) (fun q_ => (q_ ≤ nt)) (fun q_ => [(0, .ref m), (1, .int (iI ((i : Int)))), (2, .int (iI z2_)), (3, .int (iI (sCnt s (i : Int) z2_ q_))), (4, .int (iI ((q_ : Int))))]) (fun q_ => M7) ?_ (0) (Nat.zero_le _))
        intro x_ hI ih42
        obtain ⟨k, rfl⟩ : ∃ z, z = x_ := ⟨_, rfl⟩
        try dsimp only at hI ih42 ⊢
        have hk0 := hI
        have hcb := sCnt_b s (i : Int) z2_ k
        refine g_iload C d_Mo_wanted_42 4 rfl ?_
        refine g_aload_n C d_Mo_wanted_44 0 rfl ?_
        refine g_get C f_Mo_111 hM7.1 rfl d_Mo_wanted_45 ?_
        refine g_icmp_ge C 86 d_Mo_wanted_48 rfl (by omega) (fun c9 => ?_) (fun c9 => ?_)
        · refine g_iload_n C d_Mo_wanted_86 3 rfl ?_
          refine g_aload_n C d_Mo_wanted_87 0 rfl ?_
          refine g_get C f_Mo_76 hM7.1 rfl d_Mo_wanted_88 ?_
          refine g_iload_n C d_Mo_wanted_91 1 rfl ?_
          refine g_ialdN C 0 hT0 (show M7 (a 22) = some (aI tys 5 (f 22)) from hM7.2.1 22 (by decide)) i (by omega) (by omega) d_Mo_wanted_92 ?_
          rw [hsi]
          refine g_icmp_le C 107 d_Mo_wanted_93 rfl (by omega) (fun c10 => ?_) (fun c10 => ?_)
          · refine g_iconst C d_Mo_wanted_107 ?_
            exact g_iret C hr d_Mo_wanted_108 (Or.inl ⟨by omega, by rw [show (s 0 0 3).toNat = k by omega, show ((i : Nat) : Int).toNat = i by omega]; omega, RM_of hM7 rfl e1.symm e2.symm e3.symm e4.symm rfl e1 e2 e3 e4 hr9 ht9⟩)
          · refine g_iload_n C d_Mo_wanted_96 3 rfl ?_
            refine g_aload_n C d_Mo_wanted_97 0 rfl ?_
            refine g_get C f_Mo_76 hM7.1 rfl d_Mo_wanted_98 ?_
            refine g_iload_n C d_Mo_wanted_101 1 rfl ?_
            refine g_ialdN C 0 hT0 (show M7 (a 22) = some (aI tys 5 (f 22)) from hM7.2.1 22 (by decide)) i (by omega) (by omega) d_Mo_wanted_102 ?_
            rw [hsi]
            refine g_isub C d_Mo_wanted_103 ?_
            refine g_goto C 108 d_Mo_wanted_104 rfl ?_
            exact g_iret C hr d_Mo_wanted_108 (Or.inl ⟨by omega, by rw [show (s 0 0 3).toNat = k by omega, show ((i : Nat) : Int).toNat = i by omega]; omega, RM_of hM7 rfl e1.symm e2.symm e3.symm e4.symm rfl e1 e2 e3 e4 hr9 ht9⟩)
        · have htk := rt k (by omega)
          have htko := (okt k (by omega)).1
          have htku := htko
          unfold okT at htko
          have htk9 := (okt k (by omega)).2
          refine g_iload_n C d_Mo_wanted_51 3 rfl ?_
          refine g_aload_n C d_Mo_wanted_52 0 rfl ?_
          refine g_get C f_Mo_43 hM7.1 rfl d_Mo_wanted_53 ?_
          refine g_iload C d_Mo_wanted_56 4 rfl ?_
          refine g_ialdN C 0 hT0 (show M7 (a 11) = some (aI tys 40 (f 11)) from hM7.2.1 11 (by decide)) k (by omega) (by omega) d_Mo_wanted_58 ?_
          rw [htk.2.2.1]
          refine g_iload_n C d_Mo_wanted_59 1 rfl ?_
          refine g_icmp_ne C 77 d_Mo_wanted_60 rfl (by omega) (fun c11 => ?_) (fun c11 => ?_)
          · refine g_iconst C d_Mo_wanted_77 ?_
            refine g_iadd C d_Mo_wanted_78 ?_
            refine g_istore_n (lv' := [(3, .int (iI ((sCnt s (i : Int) z2_ k) + 0))), (0, .ref m), (1, .int (iI ((i : Int)))), (2, .int (iI z2_)), (4, .int (iI ((k : Int))))]) C d_Mo_wanted_79 (by decide) rfl ?_
            refine g_iinc (lv' := [(4, .int (iI (((k : Int)) + 1))), (3, .int (iI ((sCnt s (i : Int) z2_ k) + 0))), (0, .ref m), (1, .int (iI ((i : Int)))), (2, .int (iI z2_))]) C d_Mo_wanted_80 4 rfl (by decide) rfl ?_
            refine g_goto C 42 d_Mo_wanted_83 rfl ?_
            rw [show sCnt s (i : Int) z2_ k + 0 = sCnt s (i : Int) z2_ (k + 1) by rw [sCnt.eq_2, if_neg (by omega)]]
            exact g_sub [2, 3, 4, 1, 0] rfl (ih42 (k + 1) (by omega) (by first | omega | (dsimp only; omega)))
          · refine g_aload_n C d_Mo_wanted_63 0 rfl ?_
            refine g_iload C d_Mo_wanted_64 4 rfl ?_
            refine g_calliP C (run_V C [.int (iI ((k : Int)))] k_Mo_129 (ct_Mo_dueDay l D tys A M7 hT9 m a f 0 (s 0 0 0) ((np : Int)) ((nl : Int)) ((nt : Int)) ((ns : Int)) (s 0 0 5) v7 v8 v9 s np nl nt ns hS0 hr9 k (by omega) hM7) hM7.1 ⟨rfl, rfl, Nat.le_of_ble_eq_true rfl, Nat.le_of_ble_eq_true rfl⟩ rfl rfl (Nat.le_of_ble_eq_true rfl) d_Mo_wanted_66 ⟨Nat.le_of_ble_eq_true rfl, Nat.le_of_ble_eq_true rfl⟩) (fun z12 hz12 => ?_)
            subst hz12
            have hdz12 := sDue_b (okt k (by omega)).1
            refine g_iload_n C d_Mo_wanted_69 2 rfl ?_
            refine g_icmp_gt C 77 d_Mo_wanted_70 rfl (by omega) (fun c13 => ?_) (fun c13 => ?_)
            · refine g_iconst C d_Mo_wanted_77 ?_
              refine g_iadd C d_Mo_wanted_78 ?_
              refine g_istore_n (lv' := [(3, .int (iI ((sCnt s (i : Int) z2_ k) + 0))), (0, .ref m), (1, .int (iI ((i : Int)))), (2, .int (iI z2_)), (4, .int (iI ((k : Int))))]) C d_Mo_wanted_79 (by decide) rfl ?_
              refine g_iinc (lv' := [(4, .int (iI (((k : Int)) + 1))), (3, .int (iI ((sCnt s (i : Int) z2_ k) + 0))), (0, .ref m), (1, .int (iI ((i : Int)))), (2, .int (iI z2_))]) C d_Mo_wanted_80 4 rfl (by decide) rfl ?_
              refine g_goto C 42 d_Mo_wanted_83 rfl ?_
              rw [show sCnt s (i : Int) z2_ k + 0 = sCnt s (i : Int) z2_ (k + 1) by rw [sCnt.eq_2, if_neg (by omega)]]
              exact g_sub [2, 3, 4, 1, 0] rfl (ih42 (k + 1) (by omega) (by first | omega | (dsimp only; omega)))
            · refine g_iconst C d_Mo_wanted_73 ?_
              refine g_goto C 78 d_Mo_wanted_74 rfl ?_
              refine g_iadd C d_Mo_wanted_78 ?_
              refine g_istore_n (lv' := [(3, .int (iI ((sCnt s (i : Int) z2_ k) + 1))), (0, .ref m), (1, .int (iI ((i : Int)))), (2, .int (iI z2_)), (4, .int (iI ((k : Int))))]) C d_Mo_wanted_79 (by decide) rfl ?_
              refine g_iinc (lv' := [(4, .int (iI (((k : Int)) + 1))), (3, .int (iI ((sCnt s (i : Int) z2_ k) + 1))), (0, .ref m), (1, .int (iI ((i : Int)))), (2, .int (iI z2_))]) C d_Mo_wanted_80 4 rfl (by decide) rfl ?_
              refine g_goto C 42 d_Mo_wanted_83 rfl ?_
              rw [show sCnt s (i : Int) z2_ k + 1 = sCnt s (i : Int) z2_ (k + 1) by rw [sCnt.eq_2, if_pos (by omega)]]
              exact g_sub [2, 3, 4, 1, 0] rfl (ih42 (k + 1) (by omega) (by first | omega | (dsimp only; omega)))
      · exact absurd c8 (by decide)
    · refine g_iconst C d_Mo_wanted_20 ?_
      refine g_goto C 25 d_Mo_wanted_21 rfl ?_
      refine g_put C p_Mo_98 hM.1 rfl rfl (Nat.le_of_ble_eq_true rfl) (fs' := [.int (iI 1), .int (iI (s 0 0 0)), .int (iI ((np : Int))), .ref (a 0), .ref (a 1), .ref (a 2), .int (iI ((nl : Int))), .ref (a 3), .ref (a 4), .ref (a 5), .ref (a 6), .ref (a 7), .ref (a 8), .int (iI ((nt : Int))), .ref (a 9), .ref (a 10), .ref (a 11), .ref (a 12), .ref (a 13), .ref (a 14), .ref (a 15), .ref (a 16), .ref (a 17), .ref (a 18), .int (iI ((ns : Int))), .ref (a 19), .ref (a 20), .ref (a 21), .ref (a 22), .int (iI (s 0 0 5)), .int (iI v7), .int (iI v8), .int (iI v9), .ref (a 23), .ref (a 24), .ref (a 25), .ref (a 26)]) rfl d_Mo_wanted_25 ?_
      refine g_abs (X := fun M_ => MA tys M_ m a f 1 (s 0 0 0) ((np : Int)) ((nl : Int)) ((nt : Int)) ((ns : Int)) (s 0 0 5) v7 v8 v9) (MA_V hM 1 (s 0 0 0) ((np : Int)) ((nl : Int)) ((nt : Int)) ((ns : Int)) (s 0 0 5) v7 v8 v9) (fun M14 hM14 => ?_)
      refine g_aload_n C d_Mo_wanted_28 0 rfl ?_
      refine g_get C f_Mo_98 hM14.1 rfl d_Mo_wanted_29 ?_
      refine g_if_le C 37 d_Mo_wanted_32 rfl (by omega) (fun c15 => ?_) (fun c15 => ?_)
      · exact absurd c15 (by decide)
      · refine g_iconst C d_Mo_wanted_35 ?_
        exact g_iret C hr d_Mo_wanted_36 (Or.inr ⟨by omega, RM_of hM14 rfl e1.symm e2.symm e3.symm e4.symm rfl e1 e2 e3 e4 hr9 ht9⟩)
set_option maxHeartbeats 4000000 in
set_option maxRecDepth 100000 in
theorem ct_Mo_stop (l : Launch) (D : va_G) (tys : xK) (A : Nat → Prop) (M : Wm) (hT : tyOK tys) (m : Nat) (s : AS) (th : Int) (np nl nt ns : Nat) (hS : okS s np nl nt ns) (hTk : TOK s nl nt ns) (z1_ : Int) (hz1 : (-2147483648 ≤ z1_ ∧ z1_ < 2147483648))  (hRM : RM tys M m s th) : mT l y_Mo_stop b_Mo_stop 2 (some .int) { frames := 1, cells := 0, slots := 0, locals := 22 } D tys A [.ref m, .int (iI z1_)] M (qI D A (fun z M' => ((0 ≤ z1_ ∧ z1_ < s 0 0 7) ∧ z = s 6 0 z1_.toNat ∧ RM tys M' m s 0) ∨ (¬ (0 ≤ z1_ ∧ z1_ < s 0 0 7) ∧ RM tys M' m s 1))) 0 0 := by
  refine met_of (own := R_Mo) (lv := [(0, .ref m), (1, .int (iI z1_))]) rfl (by decide) (Nat.le_of_ble_eq_true rfl) rfl ?_
  intro p_ e_ s_ m_ bl_ me_ c_ C hr hin
  have hT9 := hT
  obtain ⟨hT0, hT1, hT2, hT3, hT4, hT5, hT32, hT42, hT52, hT43, hT53, hT54⟩ := hT
  obtain ⟨a, f, v7, v8, v9, hM, hr9, ht9⟩ := RM_to hS hRM
  have hwho : -1 ≤ s 0 0 5 ∧ s 0 0 5 < (ns : Int) := by
    rcases hTk with ⟨h_, -⟩ | ⟨w_, cn_, dn_, h1_, h2_, -⟩ <;> omega
  obtain ⟨hv8, hv9, hvt⟩ := id ht9
  have hS0 := hS
  obtain ⟨⟨e1, e2, e3, e4⟩, ⟨b1_, b2_, b3_, b4_⟩, b5_, okp, oklf, okt, oku, oksp, okg, oku6⟩ := hS
  obtain ⟨rp, rl, rt, rz, re, rs⟩ := id hr9
  rcases hTk with ⟨hA5, hA7, hA8, hA9, hA10⟩ | ⟨w, cn, dn, hw5, hwn, hc7, hc8, hcd, h6, hlegs, hc9, hc10, hso⟩
  · have hcA := hA5
    refine g_aload_n C d_Mo_stop_0 0 rfl ?_
    refine g_aload_n C d_Mo_stop_1 0 rfl ?_
    refine g_get C f_Mo_79 hM.1 rfl d_Mo_stop_2 ?_
    refine g_if_lt C 22 d_Mo_stop_5 rfl (by omega) (fun c1 => ?_) (fun c1 => ?_)
    · refine g_iconst C d_Mo_stop_22 ?_
      refine g_goto C 27 d_Mo_stop_23 rfl ?_
      refine g_put C p_Mo_98 hM.1 rfl rfl (Nat.le_of_ble_eq_true rfl) (fs' := [.int (iI 1), .int (iI (s 0 0 0)), .int (iI ((np : Int))), .ref (a 0), .ref (a 1), .ref (a 2), .int (iI ((nl : Int))), .ref (a 3), .ref (a 4), .ref (a 5), .ref (a 6), .ref (a 7), .ref (a 8), .int (iI ((nt : Int))), .ref (a 9), .ref (a 10), .ref (a 11), .ref (a 12), .ref (a 13), .ref (a 14), .ref (a 15), .ref (a 16), .ref (a 17), .ref (a 18), .int (iI ((ns : Int))), .ref (a 19), .ref (a 20), .ref (a 21), .ref (a 22), .int (iI (s 0 0 5)), .int (iI v7), .int (iI v8), .int (iI v9), .ref (a 23), .ref (a 24), .ref (a 25), .ref (a 26)]) rfl d_Mo_stop_27 ?_
      refine g_abs (X := fun M_ => MA tys M_ m a f 1 (s 0 0 0) ((np : Int)) ((nl : Int)) ((nt : Int)) ((ns : Int)) (s 0 0 5) v7 v8 v9) (MA_V hM 1 (s 0 0 0) ((np : Int)) ((nl : Int)) ((nt : Int)) ((ns : Int)) (s 0 0 5) v7 v8 v9) (fun M2 hM2 => ?_)
      refine g_aload_n C d_Mo_stop_30 0 rfl ?_
      refine g_get C f_Mo_98 hM2.1 rfl d_Mo_stop_31 ?_
      refine g_if_le C 41 d_Mo_stop_34 rfl (by omega) (fun c3 => ?_) (fun c3 => ?_)
      · exact absurd c3 (by decide)
      · refine g_iconst C d_Mo_stop_37 ?_
        refine g_goto C 47 d_Mo_stop_38 rfl ?_
        exact g_iret C hr d_Mo_stop_47 (Or.inr ⟨by omega, RM_of hM2 rfl e1.symm e2.symm e3.symm e4.symm rfl e1 e2 e3 e4 hr9 ht9⟩)
    · refine g_iload_n C d_Mo_stop_8 1 rfl ?_
      refine g_iconst C d_Mo_stop_9 ?_
      refine g_aload_n C d_Mo_stop_10 0 rfl ?_
      refine g_get C f_Mo_147 hM.1 rfl d_Mo_stop_11 ?_
      refine g_iconst C d_Mo_stop_14 ?_
      refine g_isub C d_Mo_stop_15 ?_
      refine g_calliP C (run_S C [.int (iI z1_), .int (iI 0), .int (iI (v8 - 1))] k_Mo_101 (ct_Mo_in l D tys A M z1_ 0 (v8 - 1) (by omega)) ⟨rfl, rfl, Nat.le_of_ble_eq_true rfl, Nat.le_of_ble_eq_true rfl⟩ rfl rfl (Nat.le_of_ble_eq_true rfl) d_Mo_stop_16 ⟨Nat.le_of_ble_eq_true rfl, Nat.le_of_ble_eq_true rfl⟩) (fun z4 hz4 => ?_)
      refine g_if_ne C 26 d_Mo_stop_19 rfl (by omega) (fun c5 => ?_) (fun c5 => ?_)
      · refine g_iconst C d_Mo_stop_26 ?_
        refine g_put C p_Mo_98 hM.1 rfl rfl (Nat.le_of_ble_eq_true rfl) (fs' := [.int (iI 0), .int (iI (s 0 0 0)), .int (iI ((np : Int))), .ref (a 0), .ref (a 1), .ref (a 2), .int (iI ((nl : Int))), .ref (a 3), .ref (a 4), .ref (a 5), .ref (a 6), .ref (a 7), .ref (a 8), .int (iI ((nt : Int))), .ref (a 9), .ref (a 10), .ref (a 11), .ref (a 12), .ref (a 13), .ref (a 14), .ref (a 15), .ref (a 16), .ref (a 17), .ref (a 18), .int (iI ((ns : Int))), .ref (a 19), .ref (a 20), .ref (a 21), .ref (a 22), .int (iI (s 0 0 5)), .int (iI v7), .int (iI v8), .int (iI v9), .ref (a 23), .ref (a 24), .ref (a 25), .ref (a 26)]) rfl d_Mo_stop_27 ?_
        refine g_abs (X := fun M_ => MA tys M_ m a f 0 (s 0 0 0) ((np : Int)) ((nl : Int)) ((nt : Int)) ((ns : Int)) (s 0 0 5) v7 v8 v9) (MA_V hM 0 (s 0 0 0) ((np : Int)) ((nl : Int)) ((nt : Int)) ((ns : Int)) (s 0 0 5) v7 v8 v9) (fun M6 hM6 => ?_)
        refine g_aload_n C d_Mo_stop_30 0 rfl ?_
        refine g_get C f_Mo_98 hM6.1 rfl d_Mo_stop_31 ?_
        refine g_if_le C 41 d_Mo_stop_34 rfl (by omega) (fun c7 => ?_) (fun c7 => ?_)
        · exfalso; omega
        · exact absurd c7 (by decide)
      · refine g_iconst C d_Mo_stop_22 ?_
        refine g_goto C 27 d_Mo_stop_23 rfl ?_
        refine g_put C p_Mo_98 hM.1 rfl rfl (Nat.le_of_ble_eq_true rfl) (fs' := [.int (iI 1), .int (iI (s 0 0 0)), .int (iI ((np : Int))), .ref (a 0), .ref (a 1), .ref (a 2), .int (iI ((nl : Int))), .ref (a 3), .ref (a 4), .ref (a 5), .ref (a 6), .ref (a 7), .ref (a 8), .int (iI ((nt : Int))), .ref (a 9), .ref (a 10), .ref (a 11), .ref (a 12), .ref (a 13), .ref (a 14), .ref (a 15), .ref (a 16), .ref (a 17), .ref (a 18), .int (iI ((ns : Int))), .ref (a 19), .ref (a 20), .ref (a 21), .ref (a 22), .int (iI (s 0 0 5)), .int (iI v7), .int (iI v8), .int (iI v9), .ref (a 23), .ref (a 24), .ref (a 25), .ref (a 26)]) rfl d_Mo_stop_27 ?_
        refine g_abs (X := fun M_ => MA tys M_ m a f 1 (s 0 0 0) ((np : Int)) ((nl : Int)) ((nt : Int)) ((ns : Int)) (s 0 0 5) v7 v8 v9) (MA_V hM 1 (s 0 0 0) ((np : Int)) ((nl : Int)) ((nt : Int)) ((ns : Int)) (s 0 0 5) v7 v8 v9) (fun M8 hM8 => ?_)
        refine g_aload_n C d_Mo_stop_30 0 rfl ?_
        refine g_get C f_Mo_98 hM8.1 rfl d_Mo_stop_31 ?_
        refine g_if_le C 41 d_Mo_stop_34 rfl (by omega) (fun c9 => ?_) (fun c9 => ?_)
        · exact absurd c9 (by decide)
        · refine g_iconst C d_Mo_stop_37 ?_
          refine g_goto C 47 d_Mo_stop_38 rfl ?_
          exact g_iret C hr d_Mo_stop_47 (Or.inr ⟨by omega, RM_of hM8 rfl e1.symm e2.symm e3.symm e4.symm rfl e1 e2 e3 e4 hr9 ht9⟩)
  · obtain ⟨rfl, rfl, rfl, h23⟩ := hvt (by omega)
    rw [hc7, hc8] at hM ht9
    rw [hc7] at hv8
    rw [hc8] at hv9
    have h23' : ∀ k_, k_ < cn → f 23 k_ = s 6 0 k_ := fun k_ hk_ => h23 k_ (by omega)
    refine g_aload_n C d_Mo_stop_0 0 rfl ?_
    refine g_aload_n C d_Mo_stop_1 0 rfl ?_
    refine g_get C f_Mo_79 hM.1 rfl d_Mo_stop_2 ?_
    refine g_if_lt C 22 d_Mo_stop_5 rfl (by omega) (fun c10 => ?_) (fun c10 => ?_)
    · refine g_iconst C d_Mo_stop_22 ?_
      refine g_goto C 27 d_Mo_stop_23 rfl ?_
      refine g_put C p_Mo_98 hM.1 rfl rfl (Nat.le_of_ble_eq_true rfl) (fs' := [.int (iI 1), .int (iI (s 0 0 0)), .int (iI ((np : Int))), .ref (a 0), .ref (a 1), .ref (a 2), .int (iI ((nl : Int))), .ref (a 3), .ref (a 4), .ref (a 5), .ref (a 6), .ref (a 7), .ref (a 8), .int (iI ((nt : Int))), .ref (a 9), .ref (a 10), .ref (a 11), .ref (a 12), .ref (a 13), .ref (a 14), .ref (a 15), .ref (a 16), .ref (a 17), .ref (a 18), .int (iI ((ns : Int))), .ref (a 19), .ref (a 20), .ref (a 21), .ref (a 22), .int (iI (s 0 0 5)), .int (iI (s 0 0 6)), .int (iI ((cn : Int))), .int (iI ((dn : Int))), .ref (a 23), .ref (a 24), .ref (a 25), .ref (a 26)]) rfl d_Mo_stop_27 ?_
      refine g_abs (X := fun M_ => MA tys M_ m a f 1 (s 0 0 0) ((np : Int)) ((nl : Int)) ((nt : Int)) ((ns : Int)) (s 0 0 5) (s 0 0 6) ((cn : Int)) ((dn : Int))) (MA_V hM 1 (s 0 0 0) ((np : Int)) ((nl : Int)) ((nt : Int)) ((ns : Int)) (s 0 0 5) (s 0 0 6) ((cn : Int)) ((dn : Int))) (fun M11 hM11 => ?_)
      refine g_aload_n C d_Mo_stop_30 0 rfl ?_
      refine g_get C f_Mo_98 hM11.1 rfl d_Mo_stop_31 ?_
      refine g_if_le C 41 d_Mo_stop_34 rfl (by omega) (fun c12 => ?_) (fun c12 => ?_)
      · exact absurd c12 (by decide)
      · refine g_iconst C d_Mo_stop_37 ?_
        refine g_goto C 47 d_Mo_stop_38 rfl ?_
        exact g_iret C hr d_Mo_stop_47 (Or.inr ⟨by omega, RM_of hM11 rfl e1.symm e2.symm e3.symm e4.symm rfl e1 e2 e3 e4 hr9 ht9⟩)
    · refine g_iload_n C d_Mo_stop_8 1 rfl ?_
      refine g_iconst C d_Mo_stop_9 ?_
      refine g_aload_n C d_Mo_stop_10 0 rfl ?_
      refine g_get C f_Mo_147 hM.1 rfl d_Mo_stop_11 ?_
      refine g_iconst C d_Mo_stop_14 ?_
      refine g_isub C d_Mo_stop_15 ?_
      refine g_calliP C (run_S C [.int (iI z1_), .int (iI 0), .int (iI (((cn : Int)) - 1))] k_Mo_101 (ct_Mo_in l D tys A M z1_ 0 (((cn : Int)) - 1) (by omega)) ⟨rfl, rfl, Nat.le_of_ble_eq_true rfl, Nat.le_of_ble_eq_true rfl⟩ rfl rfl (Nat.le_of_ble_eq_true rfl) d_Mo_stop_16 ⟨Nat.le_of_ble_eq_true rfl, Nat.le_of_ble_eq_true rfl⟩) (fun z13 hz13 => ?_)
      refine g_if_ne C 26 d_Mo_stop_19 rfl (by omega) (fun c14 => ?_) (fun c14 => ?_)
      · refine g_iconst C d_Mo_stop_26 ?_
        refine g_put C p_Mo_98 hM.1 rfl rfl (Nat.le_of_ble_eq_true rfl) (fs' := [.int (iI 0), .int (iI (s 0 0 0)), .int (iI ((np : Int))), .ref (a 0), .ref (a 1), .ref (a 2), .int (iI ((nl : Int))), .ref (a 3), .ref (a 4), .ref (a 5), .ref (a 6), .ref (a 7), .ref (a 8), .int (iI ((nt : Int))), .ref (a 9), .ref (a 10), .ref (a 11), .ref (a 12), .ref (a 13), .ref (a 14), .ref (a 15), .ref (a 16), .ref (a 17), .ref (a 18), .int (iI ((ns : Int))), .ref (a 19), .ref (a 20), .ref (a 21), .ref (a 22), .int (iI (s 0 0 5)), .int (iI (s 0 0 6)), .int (iI ((cn : Int))), .int (iI ((dn : Int))), .ref (a 23), .ref (a 24), .ref (a 25), .ref (a 26)]) rfl d_Mo_stop_27 ?_
        refine g_abs (X := fun M_ => MA tys M_ m a f 0 (s 0 0 0) ((np : Int)) ((nl : Int)) ((nt : Int)) ((ns : Int)) (s 0 0 5) (s 0 0 6) ((cn : Int)) ((dn : Int))) (MA_V hM 0 (s 0 0 0) ((np : Int)) ((nl : Int)) ((nt : Int)) ((ns : Int)) (s 0 0 5) (s 0 0 6) ((cn : Int)) ((dn : Int))) (fun M15 hM15 => ?_)
        refine g_aload_n C d_Mo_stop_30 0 rfl ?_
        refine g_get C f_Mo_98 hM15.1 rfl d_Mo_stop_31 ?_
        refine g_if_le C 41 d_Mo_stop_34 rfl (by omega) (fun c16 => ?_) (fun c16 => ?_)
        · obtain ⟨i, rfl⟩ : ∃ i : Nat, z1_ = (i : Int) := ⟨z1_.toNat, by omega⟩
          refine g_aload_n C d_Mo_stop_41 0 rfl ?_
          refine g_get C f_Mo_83 hM15.1 rfl d_Mo_stop_42 ?_
          refine g_iload_n C d_Mo_stop_45 1 rfl ?_
          refine g_ialdN C 0 hT0 (show M15 (a 23) = some (aI tys 20 (f 23)) from hM15.2.1 23 (by decide)) i (by omega) (by omega) d_Mo_stop_46 ?_
          rw [h23' i (by omega)]
          exact g_iret C hr d_Mo_stop_47 (Or.inl ⟨by omega, rfl, RM_of hM15 rfl e1.symm e2.symm e3.symm e4.symm rfl e1 e2 e3 e4 hr9 ht9⟩)
        · exact absurd c16 (by decide)
      · refine g_iconst C d_Mo_stop_22 ?_
        refine g_goto C 27 d_Mo_stop_23 rfl ?_
        refine g_put C p_Mo_98 hM.1 rfl rfl (Nat.le_of_ble_eq_true rfl) (fs' := [.int (iI 1), .int (iI (s 0 0 0)), .int (iI ((np : Int))), .ref (a 0), .ref (a 1), .ref (a 2), .int (iI ((nl : Int))), .ref (a 3), .ref (a 4), .ref (a 5), .ref (a 6), .ref (a 7), .ref (a 8), .int (iI ((nt : Int))), .ref (a 9), .ref (a 10), .ref (a 11), .ref (a 12), .ref (a 13), .ref (a 14), .ref (a 15), .ref (a 16), .ref (a 17), .ref (a 18), .int (iI ((ns : Int))), .ref (a 19), .ref (a 20), .ref (a 21), .ref (a 22), .int (iI (s 0 0 5)), .int (iI (s 0 0 6)), .int (iI ((cn : Int))), .int (iI ((dn : Int))), .ref (a 23), .ref (a 24), .ref (a 25), .ref (a 26)]) rfl d_Mo_stop_27 ?_
        refine g_abs (X := fun M_ => MA tys M_ m a f 1 (s 0 0 0) ((np : Int)) ((nl : Int)) ((nt : Int)) ((ns : Int)) (s 0 0 5) (s 0 0 6) ((cn : Int)) ((dn : Int))) (MA_V hM 1 (s 0 0 0) ((np : Int)) ((nl : Int)) ((nt : Int)) ((ns : Int)) (s 0 0 5) (s 0 0 6) ((cn : Int)) ((dn : Int))) (fun M17 hM17 => ?_)
        refine g_aload_n C d_Mo_stop_30 0 rfl ?_
        refine g_get C f_Mo_98 hM17.1 rfl d_Mo_stop_31 ?_
        refine g_if_le C 41 d_Mo_stop_34 rfl (by omega) (fun c18 => ?_) (fun c18 => ?_)
        · exact absurd c18 (by decide)
        · refine g_iconst C d_Mo_stop_37 ?_
          refine g_goto C 47 d_Mo_stop_38 rfl ?_
          exact g_iret C hr d_Mo_stop_47 (Or.inr ⟨by omega, RM_of hM17 rfl e1.symm e2.symm e3.symm e4.symm rfl e1 e2 e3 e4 hr9 ht9⟩)
set_option maxHeartbeats 4000000 in
set_option maxRecDepth 100000 in
theorem ct_Mo_done (l : Launch) (D : va_G) (tys : xK) (A : Nat → Prop) (M : Wm) (hT : tyOK tys) (m : Nat) (s : AS) (th : Int) (np nl nt ns : Nat) (hS : okS s np nl nt ns) (hTk : TOK s nl nt ns)   (hRM : RM tys M m s th) : mT l y_Mo_done b_Mo_done 2 (some .int) { frames := 0, cells := 0, slots := 0, locals := 0 } D tys A [.ref m] M (qI D A (fun z M' => (s 0 0 8 < s 0 0 7 ∧ ((s 5 0 (s 3 (s 6 0 (s 0 0 8).toNat).toNat 1).toNat ≤ 0 ∧ z = -2 ∧ RM tys M' m s 0) ∨ (0 < s 5 0 (s 3 (s 6 0 (s 0 0 8).toNat).toNat 1).toNat ∧ z = s 6 0 (s 0 0 8).toNat ∧ RM tys M' m (sDon s (s 6 0 (s 0 0 8).toNat).toNat) 0))) ∨ (¬ s 0 0 8 < s 0 0 7 ∧ RM tys M' m s 1))) 0 0 := by
  refine met_of (own := R_Mo) (lv := [(0, .ref m)]) rfl (by decide) (Nat.le_of_ble_eq_true rfl) rfl ?_
  intro p_ e_ s_ m_ bl_ me_ c_ C hr hin
  have hT9 := hT
  obtain ⟨hT0, hT1, hT2, hT3, hT4, hT5, hT32, hT42, hT52, hT43, hT53, hT54⟩ := hT
  obtain ⟨a, f, v7, v8, v9, hM, hr9, ht9⟩ := RM_to hS hRM
  have hwho : -1 ≤ s 0 0 5 ∧ s 0 0 5 < (ns : Int) := by
    rcases hTk with ⟨h_, -⟩ | ⟨w_, cn_, dn_, h1_, h2_, -⟩ <;> omega
  obtain ⟨hv8, hv9, hvt⟩ := id ht9
  have hS0 := hS
  obtain ⟨⟨e1, e2, e3, e4⟩, ⟨b1_, b2_, b3_, b4_⟩, b5_, okp, oklf, okt, oku, oksp, okg, oku6⟩ := hS
  obtain ⟨rp, rl, rt, rz, re, rs⟩ := id hr9
  rcases hTk with ⟨hA5, hA7, hA8, hA9, hA10⟩ | ⟨w, cn, dn, hw5, hwn, hc7, hc8, hcd, h6, hlegs, hc9, hc10, hso⟩
  · have hcA := hA5
    refine g_aload_n C d_Mo_done_0 0 rfl ?_
    refine g_aload_n C d_Mo_done_1 0 rfl ?_
    refine g_get C f_Mo_79 hM.1 rfl d_Mo_done_2 ?_
    refine g_if_lt C 19 d_Mo_done_5 rfl (by omega) (fun c1 => ?_) (fun c1 => ?_)
    · refine g_iconst C d_Mo_done_19 ?_
      refine g_goto C 24 d_Mo_done_20 rfl ?_
      refine g_put C p_Mo_98 hM.1 rfl rfl (Nat.le_of_ble_eq_true rfl) (fs' := [.int (iI 1), .int (iI (s 0 0 0)), .int (iI ((np : Int))), .ref (a 0), .ref (a 1), .ref (a 2), .int (iI ((nl : Int))), .ref (a 3), .ref (a 4), .ref (a 5), .ref (a 6), .ref (a 7), .ref (a 8), .int (iI ((nt : Int))), .ref (a 9), .ref (a 10), .ref (a 11), .ref (a 12), .ref (a 13), .ref (a 14), .ref (a 15), .ref (a 16), .ref (a 17), .ref (a 18), .int (iI ((ns : Int))), .ref (a 19), .ref (a 20), .ref (a 21), .ref (a 22), .int (iI (s 0 0 5)), .int (iI v7), .int (iI v8), .int (iI v9), .ref (a 23), .ref (a 24), .ref (a 25), .ref (a 26)]) rfl d_Mo_done_24 ?_
      refine g_abs (X := fun M_ => MA tys M_ m a f 1 (s 0 0 0) ((np : Int)) ((nl : Int)) ((nt : Int)) ((ns : Int)) (s 0 0 5) v7 v8 v9) (MA_V hM 1 (s 0 0 0) ((np : Int)) ((nl : Int)) ((nt : Int)) ((ns : Int)) (s 0 0 5) v7 v8 v9) (fun M2 hM2 => ?_)
      refine g_aload_n C d_Mo_done_27 0 rfl ?_
      refine g_get C f_Mo_98 hM2.1 rfl d_Mo_done_28 ?_
      refine g_if_le C 36 d_Mo_done_31 rfl (by omega) (fun c3 => ?_) (fun c3 => ?_)
      · exact absurd c3 (by decide)
      · refine g_iconst C d_Mo_done_34 ?_
        exact g_iret C hr d_Mo_done_35 (Or.inr ⟨by omega, RM_of hM2 rfl e1.symm e2.symm e3.symm e4.symm rfl e1 e2 e3 e4 hr9 ht9⟩)
    · refine g_aload_n C d_Mo_done_8 0 rfl ?_
      refine g_get C f_Mo_150 hM.1 rfl d_Mo_done_9 ?_
      refine g_aload_n C d_Mo_done_12 0 rfl ?_
      refine g_get C f_Mo_147 hM.1 rfl d_Mo_done_13 ?_
      refine g_icmp_ne C 23 d_Mo_done_16 rfl (by omega) (fun c4 => ?_) (fun c4 => ?_)
      · refine g_iconst C d_Mo_done_23 ?_
        refine g_put C p_Mo_98 hM.1 rfl rfl (Nat.le_of_ble_eq_true rfl) (fs' := [.int (iI 0), .int (iI (s 0 0 0)), .int (iI ((np : Int))), .ref (a 0), .ref (a 1), .ref (a 2), .int (iI ((nl : Int))), .ref (a 3), .ref (a 4), .ref (a 5), .ref (a 6), .ref (a 7), .ref (a 8), .int (iI ((nt : Int))), .ref (a 9), .ref (a 10), .ref (a 11), .ref (a 12), .ref (a 13), .ref (a 14), .ref (a 15), .ref (a 16), .ref (a 17), .ref (a 18), .int (iI ((ns : Int))), .ref (a 19), .ref (a 20), .ref (a 21), .ref (a 22), .int (iI (s 0 0 5)), .int (iI v7), .int (iI v8), .int (iI v9), .ref (a 23), .ref (a 24), .ref (a 25), .ref (a 26)]) rfl d_Mo_done_24 ?_
        refine g_abs (X := fun M_ => MA tys M_ m a f 0 (s 0 0 0) ((np : Int)) ((nl : Int)) ((nt : Int)) ((ns : Int)) (s 0 0 5) v7 v8 v9) (MA_V hM 0 (s 0 0 0) ((np : Int)) ((nl : Int)) ((nt : Int)) ((ns : Int)) (s 0 0 5) v7 v8 v9) (fun M5 hM5 => ?_)
        refine g_aload_n C d_Mo_done_27 0 rfl ?_
        refine g_get C f_Mo_98 hM5.1 rfl d_Mo_done_28 ?_
        refine g_if_le C 36 d_Mo_done_31 rfl (by omega) (fun c6 => ?_) (fun c6 => ?_)
        · exfalso; omega
        · exact absurd c6 (by decide)
      · refine g_iconst C d_Mo_done_19 ?_
        refine g_goto C 24 d_Mo_done_20 rfl ?_
        refine g_put C p_Mo_98 hM.1 rfl rfl (Nat.le_of_ble_eq_true rfl) (fs' := [.int (iI 1), .int (iI (s 0 0 0)), .int (iI ((np : Int))), .ref (a 0), .ref (a 1), .ref (a 2), .int (iI ((nl : Int))), .ref (a 3), .ref (a 4), .ref (a 5), .ref (a 6), .ref (a 7), .ref (a 8), .int (iI ((nt : Int))), .ref (a 9), .ref (a 10), .ref (a 11), .ref (a 12), .ref (a 13), .ref (a 14), .ref (a 15), .ref (a 16), .ref (a 17), .ref (a 18), .int (iI ((ns : Int))), .ref (a 19), .ref (a 20), .ref (a 21), .ref (a 22), .int (iI (s 0 0 5)), .int (iI v7), .int (iI v8), .int (iI v9), .ref (a 23), .ref (a 24), .ref (a 25), .ref (a 26)]) rfl d_Mo_done_24 ?_
        refine g_abs (X := fun M_ => MA tys M_ m a f 1 (s 0 0 0) ((np : Int)) ((nl : Int)) ((nt : Int)) ((ns : Int)) (s 0 0 5) v7 v8 v9) (MA_V hM 1 (s 0 0 0) ((np : Int)) ((nl : Int)) ((nt : Int)) ((ns : Int)) (s 0 0 5) v7 v8 v9) (fun M7 hM7 => ?_)
        refine g_aload_n C d_Mo_done_27 0 rfl ?_
        refine g_get C f_Mo_98 hM7.1 rfl d_Mo_done_28 ?_
        refine g_if_le C 36 d_Mo_done_31 rfl (by omega) (fun c8 => ?_) (fun c8 => ?_)
        · exact absurd c8 (by decide)
        · refine g_iconst C d_Mo_done_34 ?_
          exact g_iret C hr d_Mo_done_35 (Or.inr ⟨by omega, RM_of hM7 rfl e1.symm e2.symm e3.symm e4.symm rfl e1 e2 e3 e4 hr9 ht9⟩)
  · obtain ⟨rfl, rfl, rfl, h23⟩ := hvt (by omega)
    rw [hc7, hc8] at hM ht9
    rw [hc7] at hv8
    rw [hc8] at hv9
    have h23' : ∀ k_, k_ < cn → f 23 k_ = s 6 0 k_ := fun k_ hk_ => h23 k_ (by omega)
    refine g_aload_n C d_Mo_done_0 0 rfl ?_
    refine g_aload_n C d_Mo_done_1 0 rfl ?_
    refine g_get C f_Mo_79 hM.1 rfl d_Mo_done_2 ?_
    refine g_if_lt C 19 d_Mo_done_5 rfl (by omega) (fun c9 => ?_) (fun c9 => ?_)
    · refine g_iconst C d_Mo_done_19 ?_
      refine g_goto C 24 d_Mo_done_20 rfl ?_
      refine g_put C p_Mo_98 hM.1 rfl rfl (Nat.le_of_ble_eq_true rfl) (fs' := [.int (iI 1), .int (iI (s 0 0 0)), .int (iI ((np : Int))), .ref (a 0), .ref (a 1), .ref (a 2), .int (iI ((nl : Int))), .ref (a 3), .ref (a 4), .ref (a 5), .ref (a 6), .ref (a 7), .ref (a 8), .int (iI ((nt : Int))), .ref (a 9), .ref (a 10), .ref (a 11), .ref (a 12), .ref (a 13), .ref (a 14), .ref (a 15), .ref (a 16), .ref (a 17), .ref (a 18), .int (iI ((ns : Int))), .ref (a 19), .ref (a 20), .ref (a 21), .ref (a 22), .int (iI (s 0 0 5)), .int (iI (s 0 0 6)), .int (iI ((cn : Int))), .int (iI ((dn : Int))), .ref (a 23), .ref (a 24), .ref (a 25), .ref (a 26)]) rfl d_Mo_done_24 ?_
      refine g_abs (X := fun M_ => MA tys M_ m a f 1 (s 0 0 0) ((np : Int)) ((nl : Int)) ((nt : Int)) ((ns : Int)) (s 0 0 5) (s 0 0 6) ((cn : Int)) ((dn : Int))) (MA_V hM 1 (s 0 0 0) ((np : Int)) ((nl : Int)) ((nt : Int)) ((ns : Int)) (s 0 0 5) (s 0 0 6) ((cn : Int)) ((dn : Int))) (fun M10 hM10 => ?_)
      refine g_aload_n C d_Mo_done_27 0 rfl ?_
      refine g_get C f_Mo_98 hM10.1 rfl d_Mo_done_28 ?_
      refine g_if_le C 36 d_Mo_done_31 rfl (by omega) (fun c11 => ?_) (fun c11 => ?_)
      · exact absurd c11 (by decide)
      · refine g_iconst C d_Mo_done_34 ?_
        exact g_iret C hr d_Mo_done_35 (Or.inr ⟨by omega, RM_of hM10 rfl e1.symm e2.symm e3.symm e4.symm rfl e1 e2 e3 e4 hr9 ht9⟩)
    · refine g_aload_n C d_Mo_done_8 0 rfl ?_
      refine g_get C f_Mo_150 hM.1 rfl d_Mo_done_9 ?_
      refine g_aload_n C d_Mo_done_12 0 rfl ?_
      refine g_get C f_Mo_147 hM.1 rfl d_Mo_done_13 ?_
      refine g_icmp_ne C 23 d_Mo_done_16 rfl (by omega) (fun c12 => ?_) (fun c12 => ?_)
      · refine g_iconst C d_Mo_done_23 ?_
        refine g_put C p_Mo_98 hM.1 rfl rfl (Nat.le_of_ble_eq_true rfl) (fs' := [.int (iI 0), .int (iI (s 0 0 0)), .int (iI ((np : Int))), .ref (a 0), .ref (a 1), .ref (a 2), .int (iI ((nl : Int))), .ref (a 3), .ref (a 4), .ref (a 5), .ref (a 6), .ref (a 7), .ref (a 8), .int (iI ((nt : Int))), .ref (a 9), .ref (a 10), .ref (a 11), .ref (a 12), .ref (a 13), .ref (a 14), .ref (a 15), .ref (a 16), .ref (a 17), .ref (a 18), .int (iI ((ns : Int))), .ref (a 19), .ref (a 20), .ref (a 21), .ref (a 22), .int (iI (s 0 0 5)), .int (iI (s 0 0 6)), .int (iI ((cn : Int))), .int (iI ((dn : Int))), .ref (a 23), .ref (a 24), .ref (a 25), .ref (a 26)]) rfl d_Mo_done_24 ?_
        refine g_abs (X := fun M_ => MA tys M_ m a f 0 (s 0 0 0) ((np : Int)) ((nl : Int)) ((nt : Int)) ((ns : Int)) (s 0 0 5) (s 0 0 6) ((cn : Int)) ((dn : Int))) (MA_V hM 0 (s 0 0 0) ((np : Int)) ((nl : Int)) ((nt : Int)) ((ns : Int)) (s 0 0 5) (s 0 0 6) ((cn : Int)) ((dn : Int))) (fun M13 hM13 => ?_)
        refine g_aload_n C d_Mo_done_27 0 rfl ?_
        refine g_get C f_Mo_98 hM13.1 rfl d_Mo_done_28 ?_
        refine g_if_le C 36 d_Mo_done_31 rfl (by omega) (fun c14 => ?_) (fun c14 => ?_)
        · obtain ⟨p, hp⟩ : ∃ p : Nat, s 6 0 dn = (p : Int) := ⟨(s 6 0 dn).toNat, by have := hso dn (by omega); omega⟩
          have hpn := hso dn (by omega)
          have htp := rt p (by omega)
          have htpo := (okt p (by omega)).1
          have htpu := htpo
          unfold okT at htpo
          have htp9 := (okt p (by omega)).2
          obtain ⟨kd, hkd⟩ : ∃ kd : Nat, s 3 p 1 = (kd : Int) := ⟨(s 3 p 1).toNat, by omega⟩
          have hsk := rs kd
          have hsp := oksp kd
          have epd : (s 6 0 (s 0 0 8).toNat).toNat = p := by rw [hc8]; show (s 6 0 dn).toNat = p; omega
          have ekd : (s 3 p 1).toNat = kd := by omega
          refine g_aload_n C d_Mo_done_36 0 rfl ?_
          refine g_get C f_Mo_83 hM13.1 rfl d_Mo_done_37 ?_
          refine g_aload_n C d_Mo_done_40 0 rfl ?_
          refine g_get C f_Mo_150 hM13.1 rfl d_Mo_done_41 ?_
          refine g_ialdN C 0 hT0 (show M13 (a 23) = some (aI tys 20 (f 23)) from hM13.2.1 23 (by decide)) dn (by omega) (by omega) d_Mo_done_44 ?_
          rw [(h23' dn (by omega)).trans hp]
          refine g_istore_n (lv' := [(1, .int (iI ((p : Int)))), (0, .ref m)]) C d_Mo_done_45 (by decide) rfl ?_
          refine g_aload_n C d_Mo_done_46 1 rfl ?_
          refine g_get C f_Mo_76 hM13.1 rfl d_Mo_done_47 ?_
          refine g_aload_n C d_Mo_done_50 1 rfl ?_
          refine g_get C f_Mo_43 hM13.1 rfl d_Mo_done_51 ?_
          refine g_iload_n C d_Mo_done_54 0 rfl ?_
          refine g_ialdN C 0 hT0 (show M13 (a 11) = some (aI tys 40 (f 11)) from hM13.2.1 11 (by decide)) p (by omega) (by omega) d_Mo_done_55 ?_
          rw [htp.2.2.1.trans hkd]
          refine g_ialdN C 0 hT0 (show M13 (a 22) = some (aI tys 5 (f 22)) from hM13.2.1 22 (by decide)) kd (by omega) (by omega) d_Mo_done_56 ?_
          rw [hsk]
          refine g_if_ne C 63 d_Mo_done_57 rfl (by omega) (fun c15 => ?_) (fun c15 => ?_)
          · refine g_aload_n C d_Mo_done_63 1 rfl ?_
            refine g_get C f_Mo_76 hM13.1 rfl d_Mo_done_64 ?_
            refine g_aload_n C d_Mo_done_67 1 rfl ?_
            refine g_get C f_Mo_43 hM13.1 rfl d_Mo_done_68 ?_
            refine g_iload_n C d_Mo_done_71 0 rfl ?_
            refine g_ialdN C 0 hT0 (show M13 (a 11) = some (aI tys 40 (f 11)) from hM13.2.1 11 (by decide)) p (by omega) (by omega) d_Mo_done_72 ?_
            rw [htp.2.2.1.trans hkd]
            refine g_dup2 C rfl rfl d_Mo_done_73 ?_
            refine g_ialdN C 0 hT0 (show M13 (a 22) = some (aI tys 5 (f 22)) from hM13.2.1 22 (by decide)) kd (by omega) (by omega) d_Mo_done_74 ?_
            rw [hsk]
            refine g_iconst C d_Mo_done_75 ?_
            refine g_isub C d_Mo_done_76 ?_
            refine g_iastN C 0 hT0 (show M13 (a 22) = some (aI tys 5 (f 22)) from hM13.2.1 22 (by decide)) kd (by omega) (by omega) d_Mo_done_77 ?_ rfl
            refine g_abs (X := fun M_ => MA tys M_ m a (va_up f 22 (va_up (f 22) kd ((s 5 0 kd) - 1))) 0 (s 0 0 0) ((np : Int)) ((nl : Int)) ((nt : Int)) ((ns : Int)) (s 0 0 5) (s 0 0 6) ((cn : Int)) ((dn : Int))) (MA_F hM13 22 (by decide) (va_up (f 22) kd ((s 5 0 kd) - 1)) rfl) (fun M16 hM16 => ?_)
            refine g_aload_n C d_Mo_done_78 1 rfl ?_
            refine g_dup C rfl d_Mo_done_79 ?_
            refine g_get C f_Mo_150 hM16.1 rfl d_Mo_done_80 ?_
            refine g_iconst C d_Mo_done_83 ?_
            refine g_iadd C d_Mo_done_84 ?_
            refine g_put C p_Mo_150 hM16.1 rfl rfl (Nat.le_of_ble_eq_true rfl) (fs' := [.int (iI 0), .int (iI (s 0 0 0)), .int (iI ((np : Int))), .ref (a 0), .ref (a 1), .ref (a 2), .int (iI ((nl : Int))), .ref (a 3), .ref (a 4), .ref (a 5), .ref (a 6), .ref (a 7), .ref (a 8), .int (iI ((nt : Int))), .ref (a 9), .ref (a 10), .ref (a 11), .ref (a 12), .ref (a 13), .ref (a 14), .ref (a 15), .ref (a 16), .ref (a 17), .ref (a 18), .int (iI ((ns : Int))), .ref (a 19), .ref (a 20), .ref (a 21), .ref (a 22), .int (iI (s 0 0 5)), .int (iI (s 0 0 6)), .int (iI ((cn : Int))), .int (iI (((dn : Int)) + 1)), .ref (a 23), .ref (a 24), .ref (a 25), .ref (a 26)]) rfl d_Mo_done_85 ?_
            refine g_abs (X := fun M_ => MA tys M_ m a (va_up f 22 (va_up (f 22) kd ((s 5 0 kd) - 1))) 0 (s 0 0 0) ((np : Int)) ((nl : Int)) ((nt : Int)) ((ns : Int)) (s 0 0 5) (s 0 0 6) ((cn : Int)) (((dn : Int)) + 1)) (MA_V hM16 0 (s 0 0 0) ((np : Int)) ((nl : Int)) ((nt : Int)) ((ns : Int)) (s 0 0 5) (s 0 0 6) ((cn : Int)) (((dn : Int)) + 1)) (fun M17 hM17 => ?_)
            refine g_aload_n C d_Mo_done_88 1 rfl ?_
            refine g_get C f_Mo_55 hM17.1 rfl d_Mo_done_89 ?_
            refine g_iload_n C d_Mo_done_92 0 rfl ?_
            refine g_aload_n C d_Mo_done_93 1 rfl ?_
            refine g_get C f_Mo_144 hM17.1 rfl d_Mo_done_94 ?_
            refine g_iastN C 0 hT0 (show M17 (a 15) = some (aI tys 40 (f 15)) from hM17.2.1 15 (by decide)) p (by omega) (by omega) d_Mo_done_97 ?_ rfl
            refine g_abs (X := fun M_ => MA tys M_ m a (va_up (va_up f 22 (va_up (f 22) kd ((s 5 0 kd) - 1))) 15 (va_up (f 15) p (s 0 0 6))) 0 (s 0 0 0) ((np : Int)) ((nl : Int)) ((nt : Int)) ((ns : Int)) (s 0 0 5) (s 0 0 6) ((cn : Int)) (((dn : Int)) + 1)) (MA_F hM17 15 (by decide) (va_up (f 15) p (s 0 0 6)) rfl) (fun M18 hM18 => ?_)
            refine g_aload_n C d_Mo_done_98 1 rfl ?_
            refine g_get C f_Mo_61 hM18.1 rfl d_Mo_done_99 ?_
            refine g_iload_n C d_Mo_done_102 0 rfl ?_
            refine g_aload_n C d_Mo_done_103 1 rfl ?_
            refine g_get C f_Mo_144 hM18.1 rfl d_Mo_done_104 ?_
            refine g_iastN C 0 hT0 (show M18 (a 17) = some (aI tys 40 (f 17)) from hM18.2.1 17 (by decide)) p (by omega) (by omega) d_Mo_done_107 ?_ rfl
            refine g_abs (X := fun M_ => MA tys M_ m a (va_up (va_up (va_up f 22 (va_up (f 22) kd ((s 5 0 kd) - 1))) 15 (va_up (f 15) p (s 0 0 6))) 17 (va_up (f 17) p (s 0 0 6))) 0 (s 0 0 0) ((np : Int)) ((nl : Int)) ((nt : Int)) ((ns : Int)) (s 0 0 5) (s 0 0 6) ((cn : Int)) (((dn : Int)) + 1)) (MA_F hM18 17 (by decide) (va_up (f 17) p (s 0 0 6)) rfl) (fun M19 hM19 => ?_)
            refine g_aload_n C d_Mo_done_108 1 rfl ?_
            refine g_get C f_Mo_58 hM19.1 rfl d_Mo_done_109 ?_
            refine g_iload_n C d_Mo_done_112 0 rfl ?_
            refine g_iconst C d_Mo_done_113 ?_
            refine g_iastN C 0 hT0 (show M19 (a 16) = some (aI tys 40 (f 16)) from hM19.2.1 16 (by decide)) p (by omega) (by omega) d_Mo_done_114 ?_ rfl
            refine g_abs (X := fun M_ => MA tys M_ m a (va_up (va_up (va_up (va_up f 22 (va_up (f 22) kd ((s 5 0 kd) - 1))) 15 (va_up (f 15) p (s 0 0 6))) 17 (va_up (f 17) p (s 0 0 6))) 16 (va_up (f 16) p 0)) 0 (s 0 0 0) ((np : Int)) ((nl : Int)) ((nt : Int)) ((ns : Int)) (s 0 0 5) (s 0 0 6) ((cn : Int)) (((dn : Int)) + 1)) (MA_F hM19 16 (by decide) (va_up (f 16) p 0) rfl) (fun M20 hM20 => ?_)
            refine g_aload_n C d_Mo_done_115 1 rfl ?_
            refine g_get C f_Mo_64 hM20.1 rfl d_Mo_done_116 ?_
            refine g_iload_n C d_Mo_done_119 0 rfl ?_
            refine g_iconst C d_Mo_done_120 ?_
            refine g_iastN C 0 hT0 (show M20 (a 18) = some (aI tys 40 (f 18)) from hM20.2.1 18 (by decide)) p (by omega) (by omega) d_Mo_done_121 ?_ rfl
            refine g_abs (X := fun M_ => MA tys M_ m a (va_up (va_up (va_up (va_up (va_up f 22 (va_up (f 22) kd ((s 5 0 kd) - 1))) 15 (va_up (f 15) p (s 0 0 6))) 17 (va_up (f 17) p (s 0 0 6))) 16 (va_up (f 16) p 0)) 18 (va_up (f 18) p ((-1)))) 0 (s 0 0 0) ((np : Int)) ((nl : Int)) ((nt : Int)) ((ns : Int)) (s 0 0 5) (s 0 0 6) ((cn : Int)) (((dn : Int)) + 1)) (MA_F hM20 18 (by decide) (va_up (f 18) p ((-1))) rfl) (fun M21 hM21 => ?_)
            refine g_iload_n C d_Mo_done_122 0 rfl ?_
            exact g_iret C hr d_Mo_done_123 (Or.inl ⟨by omega, Or.inr ⟨by rw [epd, ekd]; omega, by rw [hc8]; exact hp.symm, by
                rw [epd]
                refine RM_of (s := sDon s p) hM21 rfl e1.symm e2.symm e3.symm e4.symm rfl e1 e2 e3 e4 ?_ ⟨by omega, by omega, fun _ => ⟨rfl, hc7.symm, by show _ = s 0 0 8 + 1; omega, h23⟩⟩
                refine mR_pt (p := p) (t := va_up (va_up (va_up (va_up (s 3 p) 5 (s 0 0 6)) 6 0) 7 (s 0 0 6)) 8 (-1)) hr9 (by omega) rfl rfl rfl rfl ⟨rfl, rfl, rfl, rfl, rfl, rfl, Int.le_refl _⟩ (fun j_ hj_ => by
                repeat rw [wU_n (f := _) (j := j_) (by omega)]) rfl rfl rfl rfl (fun k_ => ?_)
                show va_up (f 22) kd (s 5 0 kd - 1) k_ = va_up (s 5 0) (s 3 p 1).toNat (s 5 0 (s 3 p 1).toNat - 1) k_
                rw [ekd]
                by_cases q_ : k_ = kd
                · subst q_; rw [iu_s, iu_s]
                · rw [iu_n q_, iu_n q_]; exact rs k_⟩⟩)
          · refine g_bipush C d_Mo_done_60 (by decide) ?_
            exact g_iret C hr d_Mo_done_62 (Or.inl ⟨by omega, Or.inl ⟨by rw [epd, ekd]; omega, rfl, RM_of hM13 rfl e1.symm e2.symm e3.symm e4.symm rfl e1 e2 e3 e4 hr9 ht9⟩⟩)
        · exact absurd c14 (by decide)
      · refine g_iconst C d_Mo_done_19 ?_
        refine g_goto C 24 d_Mo_done_20 rfl ?_
        refine g_put C p_Mo_98 hM.1 rfl rfl (Nat.le_of_ble_eq_true rfl) (fs' := [.int (iI 1), .int (iI (s 0 0 0)), .int (iI ((np : Int))), .ref (a 0), .ref (a 1), .ref (a 2), .int (iI ((nl : Int))), .ref (a 3), .ref (a 4), .ref (a 5), .ref (a 6), .ref (a 7), .ref (a 8), .int (iI ((nt : Int))), .ref (a 9), .ref (a 10), .ref (a 11), .ref (a 12), .ref (a 13), .ref (a 14), .ref (a 15), .ref (a 16), .ref (a 17), .ref (a 18), .int (iI ((ns : Int))), .ref (a 19), .ref (a 20), .ref (a 21), .ref (a 22), .int (iI (s 0 0 5)), .int (iI (s 0 0 6)), .int (iI ((cn : Int))), .int (iI ((dn : Int))), .ref (a 23), .ref (a 24), .ref (a 25), .ref (a 26)]) rfl d_Mo_done_24 ?_
        refine g_abs (X := fun M_ => MA tys M_ m a f 1 (s 0 0 0) ((np : Int)) ((nl : Int)) ((nt : Int)) ((ns : Int)) (s 0 0 5) (s 0 0 6) ((cn : Int)) ((dn : Int))) (MA_V hM 1 (s 0 0 0) ((np : Int)) ((nl : Int)) ((nt : Int)) ((ns : Int)) (s 0 0 5) (s 0 0 6) ((cn : Int)) ((dn : Int))) (fun M22 hM22 => ?_)
        refine g_aload_n C d_Mo_done_27 0 rfl ?_
        refine g_get C f_Mo_98 hM22.1 rfl d_Mo_done_28 ?_
        refine g_if_le C 36 d_Mo_done_31 rfl (by omega) (fun c23 => ?_) (fun c23 => ?_)
        · exact absurd c23 (by decide)
        · refine g_iconst C d_Mo_done_34 ?_
          exact g_iret C hr d_Mo_done_35 (Or.inr ⟨by omega, RM_of hM22 rfl e1.symm e2.symm e3.symm e4.symm rfl e1 e2 e3 e4 hr9 ht9⟩)
