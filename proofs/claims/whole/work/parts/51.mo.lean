/-! THE MODEL, leaves: written by program (wip/whole/gen/mo.py) -/
set_option maxHeartbeats 4000000 in
set_option maxRecDepth 100000 in
theorem ct_Mo_in (l : Launch) (D : va_G) (tys : xK) (A : Nat → Prop) (M : Wm)  (n lo hi : Int) (h0 : (-2147483648 ≤ n ∧ n < 2147483648) ∧ (-2147483648 ≤ lo ∧ lo < 2147483648) ∧ (-2147483648 ≤ hi ∧ hi < 2147483648))  : pT l y_Mo_in b_Mo_in 3 (some .boolean) { frames := 0, cells := 0, slots := 0, locals := 0 } D tys A [.int (iI n), .int (iI lo), .int (iI hi)] M (qP (fun z => (z = 1 ∧ lo ≤ n ∧ n ≤ hi) ∨ (z = 0 ∧ ¬ (lo ≤ n ∧ n ≤ hi)))) := by
  refine met_of (own := R_Mo) (lv := [(0, .int (iI n)), (1, .int (iI lo)), (2, .int (iI hi))]) rfl (by decide) (Nat.le_of_ble_eq_true rfl) rfl ?_
  intro p_ e_ s_ m_ bl_ me_ c_ C hr hin
  refine g_iload_n C d_Mo_in_0 0 rfl ?_
  refine g_iload_n C d_Mo_in_1 1 rfl ?_
  refine g_icmp_lt C 14 d_Mo_in_2 rfl (by omega) (fun c1 => ?_) (fun c1 => ?_)
  · refine g_iconst C d_Mo_in_14 ?_
    exact g_zretP C hr (by omega) d_Mo_in_15 (by omega)
  · refine g_iload_n C d_Mo_in_5 0 rfl ?_
    refine g_iload_n C d_Mo_in_6 2 rfl ?_
    refine g_icmp_gt C 14 d_Mo_in_7 rfl (by omega) (fun c2 => ?_) (fun c2 => ?_)
    · refine g_iconst C d_Mo_in_14 ?_
      exact g_zretP C hr (by omega) d_Mo_in_15 (by omega)
    · refine g_iconst C d_Mo_in_10 ?_
      refine g_goto C 15 d_Mo_in_11 rfl ?_
      exact g_zretP C hr (by omega) d_Mo_in_15 (by omega)
set_option maxHeartbeats 4000000 in
set_option maxRecDepth 100000 in
theorem ct_Mo_apart (l : Launch) (D : va_G) (tys : xK) (A : Nat → Prop) (M : Wm)  (x y : Int) (h0 : (-2147483648 ≤ x ∧ x < 2147483648) ∧ (-2147483648 ≤ y ∧ y < 2147483648))  : pT l y_Mo_apart b_Mo_apart 2 (some .int) { frames := 0, cells := 0, slots := 0, locals := 0 } D tys A [.int (iI x), .int (iI y)] M (qP (fun z => z = sAbs x y)) := by
  refine met_of (own := R_Mo) (lv := [(0, .int (iI x)), (1, .int (iI y))]) rfl (by decide) (Nat.le_of_ble_eq_true rfl) rfl ?_
  intro p_ e_ s_ m_ bl_ me_ c_ C hr hin
  have hu := sAbs_or x y
  refine g_iload_n C d_Mo_apart_0 0 rfl ?_
  refine g_iload_n C d_Mo_apart_1 1 rfl ?_
  refine g_icmp_ge C 11 d_Mo_apart_2 rfl (by omega) (fun c1 => ?_) (fun c1 => ?_)
  · refine g_iload_n C d_Mo_apart_11 0 rfl ?_
    refine g_iload_n C d_Mo_apart_12 1 rfl ?_
    refine g_isub C d_Mo_apart_13 ?_
    exact g_iretP C hr d_Mo_apart_14 (by omega)
  · refine g_iload_n C d_Mo_apart_5 1 rfl ?_
    refine g_iload_n C d_Mo_apart_6 0 rfl ?_
    refine g_isub C d_Mo_apart_7 ?_
    refine g_goto C 14 d_Mo_apart_8 rfl ?_
    exact g_iretP C hr d_Mo_apart_14 (by omega)
set_option maxHeartbeats 4000000 in
set_option maxRecDepth 100000 in
theorem ct_Mo_thrown (l : Launch) (D : va_G) (tys : xK) (A : Nat → Prop) (M : Wm) (hT : tyOK tys) (m : Nat) (a : Nat → Nat) (f : Nat → Nat → Int) (v0 v1 v2 v3 v4 v5 v6 v7 v8 v9 : Int)  (hM : MA tys M m a f v0 v1 v2 v3 v4 v5 v6 v7 v8 v9) : pT l y_Mo_thrown b_Mo_thrown 1 (some .int) { frames := 0, cells := 0, slots := 0, locals := 0 } D tys A [.ref m] M (qP (fun z => z = v0)) := by
  refine met_of (own := R_Mo) (lv := [(0, .ref m)]) rfl (by decide) (Nat.le_of_ble_eq_true rfl) rfl ?_
  intro p_ e_ s_ m_ bl_ me_ c_ C hr hin
  have hT9 := hT
  obtain ⟨hT0, hT1, hT2, hT3, hT4, hT5, hT32, hT42, hT52, hT43, hT53, hT54⟩ := hT
  refine g_aload_n C d_Mo_thrown_0 0 rfl ?_
  refine g_get C f_Mo_98 hM.1 rfl d_Mo_thrown_1 ?_
  exact g_iretP C hr d_Mo_thrown_4 rfl
set_option maxHeartbeats 4000000 in
set_option maxRecDepth 100000 in
theorem ct_Mo_isPart (l : Launch) (D : va_G) (tys : xK) (A : Nat → Prop) (M : Wm) (hT : tyOK tys) (m : Nat) (a : Nat → Nat) (f : Nat → Nat → Int) (v0 v1 v2 v3 v5 v6 v7 v8 v9 : Int) (nt : Nat) (z0 : Int) (h0 : (-2147483648 ≤ z0 ∧ z0 < 2147483648)) (hn : nt ≤ 40) (hM : MA tys M m a f v0 v1 v2 v3 ((nt : Int)) v5 v6 v7 v8 v9) : pT l y_Mo_isPart b_Mo_isPart 2 (some .boolean) { frames := 1, cells := 0, slots := 0, locals := 22 } D tys A [.ref m, .int (iI z0)] M (qP (fun z => (z = 1 ∧ 0 ≤ z0 ∧ z0 < nt) ∨ (z = 0 ∧ ¬ (0 ≤ z0 ∧ z0 < nt)))) := by
  refine met_of (own := R_Mo) (lv := [(0, .ref m), (1, .int (iI z0))]) rfl (by decide) (Nat.le_of_ble_eq_true rfl) rfl ?_
  intro p_ e_ s_ m_ bl_ me_ c_ C hr hin
  have hT9 := hT
  obtain ⟨hT0, hT1, hT2, hT3, hT4, hT5, hT32, hT42, hT52, hT43, hT53, hT54⟩ := hT
  refine g_iload_n C d_Mo_isPart_0 1 rfl ?_
  refine g_iconst C d_Mo_isPart_1 ?_
  refine g_aload_n C d_Mo_isPart_2 0 rfl ?_
  refine g_get C f_Mo_111 hM.1 rfl d_Mo_isPart_3 ?_
  refine g_iconst C d_Mo_isPart_6 ?_
  refine g_isub C d_Mo_isPart_7 ?_
  refine g_calliP C (run_S C [.int (iI z0), .int (iI 0), .int (iI (((nt : Int)) - 1))] k_Mo_101 (ct_Mo_in l D tys A M z0 0 (((nt : Int)) - 1) (by omega)) ⟨rfl, rfl, Nat.le_of_ble_eq_true rfl, Nat.le_of_ble_eq_true rfl⟩ rfl rfl (Nat.le_of_ble_eq_true rfl) d_Mo_isPart_8 ⟨Nat.le_of_ble_eq_true rfl, Nat.le_of_ble_eq_true rfl⟩) (fun z1 hz1 => ?_)
  exact g_zretP C hr (by omega) d_Mo_isPart_11 (by omega)
set_option maxHeartbeats 4000000 in
set_option maxRecDepth 100000 in
theorem ct_Mo_way (l : Launch) (D : va_G) (tys : xK) (A : Nat → Prop) (M : Wm) (hT : tyOK tys) (m : Nat) (a : Nat → Nat) (f : Nat → Nat → Int) (v0 v1 v2 v4 v5 v6 v7 v8 v9 : Int) (s : AS) (np nl nt ns : Nat) (hS : okS s np nl nt ns) (hr9 : mR s f np nl nt ns) (i j : Nat) (hi : i < np) (hj : j < np) (hM : MA tys M m a f v0 v1 v2 ((nl : Int)) v4 v5 v6 v7 v8 v9) : pT l y_Mo_way b_Mo_way 8 (some .int) { frames := 1, cells := 0, slots := 0, locals := 22 } D tys A [.ref m, .int (iI ((i : Int))), .int (iI ((j : Int)))] M (qP (fun z => z = sWay nl (s 2) (s 1 i) (s 1 j))) := by
  refine met_of (own := R_Mo) (lv := [(0, .ref m), (1, .int (iI ((i : Int)))), (2, .int (iI ((j : Int))))]) rfl (by decide) (Nat.le_of_ble_eq_true rfl) rfl ?_
  intro p_ e_ s_ m_ bl_ me_ c_ C hr hin
  have hT9 := hT
  obtain ⟨hT0, hT1, hT2, hT3, hT4, hT5, hT32, hT42, hT52, hT43, hT53, hT54⟩ := hT
  have hS0 := hS
  obtain ⟨⟨e1, e2, e3, e4⟩, ⟨b1_, b2_, b3_, b4_⟩, b5_, okp, oklf, okt, oku, oksp, okg, oku6⟩ := hS
  obtain ⟨rp, rl, rt, rz, re, rs⟩ := id hr9
  have hpi := rp i (by omega)
  have hpoi := okp i (by omega)
  unfold okP at hpoi
  have hpj := rp j (by omega)
  have hpoj := okp j (by omega)
  unfold okP at hpoj
  refine g_aload_n C d_Mo_way_0 0 rfl ?_
  refine g_get C f_Mo_7 hM.1 rfl d_Mo_way_1 ?_
  refine g_iload_n C d_Mo_way_4 1 rfl ?_
  refine g_ialdN C 0 hT0 (show M (a 0) = some (aI tys 30 (f 0)) from hM.2.1 0 (by decide)) i (by omega) (by omega) d_Mo_way_5 ?_
  rw [hpi.1]
  refine g_aload_n C d_Mo_way_6 0 rfl ?_
  refine g_get C f_Mo_7 hM.1 rfl d_Mo_way_7 ?_
  refine g_iload_n C d_Mo_way_10 2 rfl ?_
  refine g_ialdN C 0 hT0 (show M (a 0) = some (aI tys 30 (f 0)) from hM.2.1 0 (by decide)) j (by omega) (by omega) d_Mo_way_11 ?_
  rw [hpj.1]
  refine g_icmp_ne C 47 d_Mo_way_12 rfl (by omega) (fun c1 => ?_) (fun c1 => ?_)
  · refine g_iconst C d_Mo_way_47 ?_
    refine g_istore_n (lv' := [(3, .int (iI ((-1)))), (0, .ref m), (1, .int (iI ((i : Int)))), (2, .int (iI ((j : Int))))]) C d_Mo_way_48 (by decide) rfl ?_
    refine g_iconst C d_Mo_way_49 ?_
    refine g_istore (lv' := [(4, .int (iI 0)), (3, .int (iI ((-1)))), (0, .ref m), (1, .int (iI ((i : Int)))), (2, .int (iI ((j : Int))))]) C d_Mo_way_50 (by decide) rfl ?_
    refine g_sub [2, 3, 4, 1, 0] rfl (g_loop (σ := Nat) (fun q_ => nl - q_) (fun q_ => (q_ ≤ nl)) (fun q_ => [(0, .ref m), (1, .int (iI ((i : Int)))), (2, .int (iI ((j : Int)))), (3, .int (iI (sWayL (s 2) (s 1 i) (s 1 j) q_))), (4, .int (iI ((q_ : Int))))]) (fun q_ => M) ?_ (0) (Nat.zero_le _))
    intro x_ hI ih52
    obtain ⟨k, rfl⟩ : ∃ z, z = x_ := ⟨_, rfl⟩
    try dsimp only at hI ih52 ⊢
    have hk0 := hI
    have hwb := sWayL_b (fun q_ hq_ => oklf q_ (show q_ < nl by omega)) (okp i (by omega)) (okp j (by omega)) (nl := k)
    refine g_iload C d_Mo_way_52 4 rfl ?_
    refine g_aload_n C d_Mo_way_54 0 rfl ?_
    refine g_get C f_Mo_108 hM.1 rfl d_Mo_way_55 ?_
    refine g_icmp_ge C 248 d_Mo_way_58 rfl (by omega) (fun c2 => ?_) (fun c2 => ?_)
    · refine g_iload_n C d_Mo_way_248 3 rfl ?_
      exact g_iretP C hr d_Mo_way_249 (by unfold sWay; rw [if_neg (by omega), show nl = k by omega])
    · have hlk := rl k (by omega)
      have hlok := oklf k (by omega)
      have hlo9k := hlok
      unfold okL at hlok
      have hsl := sLift_b hlo9k (okp i (by omega)) (okp j (by omega))
      have hum := sAbs_or (s 1 i 0) (s 1 j 0)
      have hu1 := sAbs_or (s 1 i 1) (s 2 k 0)
      have hu2 := sAbs_or (s 1 i 2) (s 2 k 1)
      have hu3 := sAbs_or (s 1 j 1) (s 2 k 0)
      have hu4 := sAbs_or (s 1 j 2) (s 2 k 1)
      refine g_aload_n C d_Mo_way_61 0 rfl ?_
      refine g_get C f_Mo_7 hM.1 rfl d_Mo_way_62 ?_
      refine g_iload_n C d_Mo_way_65 1 rfl ?_
      refine g_ialdN C 0 hT0 (show M (a 0) = some (aI tys 30 (f 0)) from hM.2.1 0 (by decide)) i (by omega) (by omega) d_Mo_way_66 ?_
      rw [hpi.1]
      refine g_aload_n C d_Mo_way_67 0 rfl ?_
      refine g_get C f_Mo_25 hM.1 rfl d_Mo_way_68 ?_
      refine g_iload C d_Mo_way_71 4 rfl ?_
      refine g_ialdN C 0 hT0 (show M (a 5) = some (aI tys 6 (f 5)) from hM.2.1 5 (by decide)) k (by omega) (by omega) d_Mo_way_73 ?_
      rw [hlk.2.2.1]
      refine g_aload_n C d_Mo_way_74 0 rfl ?_
      refine g_get C f_Mo_28 hM.1 rfl d_Mo_way_75 ?_
      refine g_iload C d_Mo_way_78 4 rfl ?_
      refine g_ialdN C 0 hT0 (show M (a 6) = some (aI tys 6 (f 6)) from hM.2.1 6 (by decide)) k (by omega) (by omega) d_Mo_way_80 ?_
      rw [hlk.2.2.2.1]
      refine g_calliP C (run_S C [.int (iI (s 1 i 0)), .int (iI (s 2 k 2)), .int (iI (s 2 k 3))] k_Mo_101 (ct_Mo_in l D tys A M (s 1 i 0) (s 2 k 2) (s 2 k 3) (by omega)) ⟨rfl, rfl, Nat.le_of_ble_eq_true rfl, Nat.le_of_ble_eq_true rfl⟩ rfl rfl (Nat.le_of_ble_eq_true rfl) d_Mo_way_81 ⟨Nat.le_of_ble_eq_true rfl, Nat.le_of_ble_eq_true rfl⟩) (fun z3 hz3 => ?_)
      refine g_if_eq C 242 d_Mo_way_84 rfl (by omega) (fun c4 => ?_) (fun c4 => ?_)
      · refine g_iinc (lv' := [(4, .int (iI (((k : Int)) + 1))), (0, .ref m), (1, .int (iI ((i : Int)))), (2, .int (iI ((j : Int)))), (3, .int (iI (sWayL (s 2) (s 1 i) (s 1 j) k)))]) C d_Mo_way_242 4 rfl (by decide) rfl ?_
        refine g_goto C 52 d_Mo_way_245 rfl ?_
        rw [show sWayL (s 2) (s 1 i) (s 1 j) k = sWayL (s 2) (s 1 i) (s 1 j) (k + 1) by rw [sWayL.eq_2, if_neg (by omega)]]
        exact g_sub [1, 2, 3, 4, 0] rfl (ih52 (k + 1) (by omega) (by omega))
      · refine g_aload_n C d_Mo_way_87 0 rfl ?_
        refine g_get C f_Mo_7 hM.1 rfl d_Mo_way_88 ?_
        refine g_iload_n C d_Mo_way_91 2 rfl ?_
        refine g_ialdN C 0 hT0 (show M (a 0) = some (aI tys 30 (f 0)) from hM.2.1 0 (by decide)) j (by omega) (by omega) d_Mo_way_92 ?_
        rw [hpj.1]
        refine g_aload_n C d_Mo_way_93 0 rfl ?_
        refine g_get C f_Mo_25 hM.1 rfl d_Mo_way_94 ?_
        refine g_iload C d_Mo_way_97 4 rfl ?_
        refine g_ialdN C 0 hT0 (show M (a 5) = some (aI tys 6 (f 5)) from hM.2.1 5 (by decide)) k (by omega) (by omega) d_Mo_way_99 ?_
        rw [hlk.2.2.1]
        refine g_aload_n C d_Mo_way_100 0 rfl ?_
        refine g_get C f_Mo_28 hM.1 rfl d_Mo_way_101 ?_
        refine g_iload C d_Mo_way_104 4 rfl ?_
        refine g_ialdN C 0 hT0 (show M (a 6) = some (aI tys 6 (f 6)) from hM.2.1 6 (by decide)) k (by omega) (by omega) d_Mo_way_106 ?_
        rw [hlk.2.2.2.1]
        refine g_calliP C (run_S C [.int (iI (s 1 j 0)), .int (iI (s 2 k 2)), .int (iI (s 2 k 3))] k_Mo_101 (ct_Mo_in l D tys A M (s 1 j 0) (s 2 k 2) (s 2 k 3) (by omega)) ⟨rfl, rfl, Nat.le_of_ble_eq_true rfl, Nat.le_of_ble_eq_true rfl⟩ rfl rfl (Nat.le_of_ble_eq_true rfl) d_Mo_way_107 ⟨Nat.le_of_ble_eq_true rfl, Nat.le_of_ble_eq_true rfl⟩) (fun z5 hz5 => ?_)
        refine g_if_ne C 116 d_Mo_way_110 rfl (by omega) (fun c6 => ?_) (fun c6 => ?_)
        · refine g_aload_n C d_Mo_way_116 0 rfl ?_
          refine g_get C f_Mo_13 hM.1 rfl d_Mo_way_117 ?_
          refine g_iload_n C d_Mo_way_120 1 rfl ?_
          refine g_ialdN C 0 hT0 (show M (a 1) = some (aI tys 30 (f 1)) from hM.2.1 1 (by decide)) i (by omega) (by omega) d_Mo_way_121 ?_
          rw [hpi.2.1]
          refine g_aload_n C d_Mo_way_122 0 rfl ?_
          refine g_get C f_Mo_19 hM.1 rfl d_Mo_way_123 ?_
          refine g_iload C d_Mo_way_126 4 rfl ?_
          refine g_ialdN C 0 hT0 (show M (a 3) = some (aI tys 6 (f 3)) from hM.2.1 3 (by decide)) k (by omega) (by omega) d_Mo_way_128 ?_
          rw [hlk.1]
          refine g_calliP C (run_S C [.int (iI (s 1 i 1)), .int (iI (s 2 k 0))] k_Mo_122 (ct_Mo_apart l D tys A M (s 1 i 1) (s 2 k 0) (by omega)) ⟨rfl, rfl, Nat.le_of_ble_eq_true rfl, Nat.le_of_ble_eq_true rfl⟩ rfl rfl (Nat.le_of_ble_eq_true rfl) d_Mo_way_129 ⟨Nat.le_of_ble_eq_true rfl, Nat.le_of_ble_eq_true rfl⟩) (fun z7 hz7 => ?_)
          subst hz7
          refine g_aload_n C d_Mo_way_132 0 rfl ?_
          refine g_get C f_Mo_16 hM.1 rfl d_Mo_way_133 ?_
          refine g_iload_n C d_Mo_way_136 1 rfl ?_
          refine g_ialdN C 0 hT0 (show M (a 2) = some (aI tys 30 (f 2)) from hM.2.1 2 (by decide)) i (by omega) (by omega) d_Mo_way_137 ?_
          rw [hpi.2.2]
          refine g_aload_n C d_Mo_way_138 0 rfl ?_
          refine g_get C f_Mo_22 hM.1 rfl d_Mo_way_139 ?_
          refine g_iload C d_Mo_way_142 4 rfl ?_
          refine g_ialdN C 0 hT0 (show M (a 4) = some (aI tys 6 (f 4)) from hM.2.1 4 (by decide)) k (by omega) (by omega) d_Mo_way_144 ?_
          rw [hlk.2.1]
          refine g_calliP C (run_S C [.int (iI (s 1 i 2)), .int (iI (s 2 k 1))] k_Mo_122 (ct_Mo_apart l D tys A M (s 1 i 2) (s 2 k 1) (by omega)) ⟨rfl, rfl, Nat.le_of_ble_eq_true rfl, Nat.le_of_ble_eq_true rfl⟩ rfl rfl (Nat.le_of_ble_eq_true rfl) d_Mo_way_145 ⟨Nat.le_of_ble_eq_true rfl, Nat.le_of_ble_eq_true rfl⟩) (fun z8 hz8 => ?_)
          subst hz8
          refine g_iadd C d_Mo_way_148 ?_
          refine g_istore (lv' := [(5, .int (iI ((sAbs (s 1 i 1) (s 2 k 0)) + (sAbs (s 1 i 2) (s 2 k 1))))), (0, .ref m), (1, .int (iI ((i : Int)))), (2, .int (iI ((j : Int)))), (3, .int (iI (sWayL (s 2) (s 1 i) (s 1 j) k))), (4, .int (iI ((k : Int))))]) C d_Mo_way_149 (by decide) rfl ?_
          refine g_aload_n C d_Mo_way_151 1 rfl ?_
          refine g_get C f_Mo_13 hM.1 rfl d_Mo_way_152 ?_
          refine g_iload_n C d_Mo_way_155 3 rfl ?_
          refine g_ialdN C 0 hT0 (show M (a 1) = some (aI tys 30 (f 1)) from hM.2.1 1 (by decide)) j (by omega) (by omega) d_Mo_way_156 ?_
          rw [hpj.2.1]
          refine g_aload_n C d_Mo_way_157 1 rfl ?_
          refine g_get C f_Mo_19 hM.1 rfl d_Mo_way_158 ?_
          refine g_iload C d_Mo_way_161 5 rfl ?_
          refine g_ialdN C 0 hT0 (show M (a 3) = some (aI tys 6 (f 3)) from hM.2.1 3 (by decide)) k (by omega) (by omega) d_Mo_way_163 ?_
          rw [hlk.1]
          refine g_calliP C (run_S C [.int (iI (s 1 j 1)), .int (iI (s 2 k 0))] k_Mo_122 (ct_Mo_apart l D tys A M (s 1 j 1) (s 2 k 0) (by omega)) ⟨rfl, rfl, Nat.le_of_ble_eq_true rfl, Nat.le_of_ble_eq_true rfl⟩ rfl rfl (Nat.le_of_ble_eq_true rfl) d_Mo_way_164 ⟨Nat.le_of_ble_eq_true rfl, Nat.le_of_ble_eq_true rfl⟩) (fun z9 hz9 => ?_)
          subst hz9
          refine g_aload_n C d_Mo_way_167 1 rfl ?_
          refine g_get C f_Mo_16 hM.1 rfl d_Mo_way_168 ?_
          refine g_iload_n C d_Mo_way_171 3 rfl ?_
          refine g_ialdN C 0 hT0 (show M (a 2) = some (aI tys 30 (f 2)) from hM.2.1 2 (by decide)) j (by omega) (by omega) d_Mo_way_172 ?_
          rw [hpj.2.2]
          refine g_aload_n C d_Mo_way_173 1 rfl ?_
          refine g_get C f_Mo_22 hM.1 rfl d_Mo_way_174 ?_
          refine g_iload C d_Mo_way_177 5 rfl ?_
          refine g_ialdN C 0 hT0 (show M (a 4) = some (aI tys 6 (f 4)) from hM.2.1 4 (by decide)) k (by omega) (by omega) d_Mo_way_179 ?_
          rw [hlk.2.1]
          refine g_calliP C (run_S C [.int (iI (s 1 j 2)), .int (iI (s 2 k 1))] k_Mo_122 (ct_Mo_apart l D tys A M (s 1 j 2) (s 2 k 1) (by omega)) ⟨rfl, rfl, Nat.le_of_ble_eq_true rfl, Nat.le_of_ble_eq_true rfl⟩ rfl rfl (Nat.le_of_ble_eq_true rfl) d_Mo_way_180 ⟨Nat.le_of_ble_eq_true rfl, Nat.le_of_ble_eq_true rfl⟩) (fun z10 hz10 => ?_)
          subst hz10
          refine g_iadd C d_Mo_way_183 ?_
          refine g_istore (lv' := [(6, .int (iI ((sAbs (s 1 j 1) (s 2 k 0)) + (sAbs (s 1 j 2) (s 2 k 1))))), (5, .int (iI ((sAbs (s 1 i 1) (s 2 k 0)) + (sAbs (s 1 i 2) (s 2 k 1))))), (0, .ref m), (1, .int (iI ((i : Int)))), (2, .int (iI ((j : Int)))), (3, .int (iI (sWayL (s 2) (s 1 i) (s 1 j) k))), (4, .int (iI ((k : Int))))]) C d_Mo_way_184 (by decide) rfl ?_
          refine g_iload C d_Mo_way_186 1 rfl ?_
          refine g_aload_n C d_Mo_way_188 2 rfl ?_
          refine g_get C f_Mo_31 hM.1 rfl d_Mo_way_189 ?_
          refine g_iload C d_Mo_way_192 6 rfl ?_
          refine g_ialdN C 0 hT0 (show M (a 7) = some (aI tys 6 (f 7)) from hM.2.1 7 (by decide)) k (by omega) (by omega) d_Mo_way_194 ?_
          rw [hlk.2.2.2.2.1]
          refine g_iadd C d_Mo_way_195 ?_
          refine g_aload_n C d_Mo_way_196 2 rfl ?_
          refine g_get C f_Mo_34 hM.1 rfl d_Mo_way_197 ?_
          refine g_iload C d_Mo_way_200 6 rfl ?_
          refine g_ialdN C 0 hT0 (show M (a 8) = some (aI tys 6 (f 8)) from hM.2.1 8 (by decide)) k (by omega) (by omega) d_Mo_way_202 ?_
          rw [hlk.2.2.2.2.2]
          refine g_aload_n C d_Mo_way_203 2 rfl ?_
          refine g_get C f_Mo_7 hM.1 rfl d_Mo_way_204 ?_
          refine g_iload_n C d_Mo_way_207 3 rfl ?_
          refine g_ialdN C 0 hT0 (show M (a 0) = some (aI tys 30 (f 0)) from hM.2.1 0 (by decide)) i (by omega) (by omega) d_Mo_way_208 ?_
          rw [hpi.1]
          refine g_aload_n C d_Mo_way_209 2 rfl ?_
          refine g_get C f_Mo_7 hM.1 rfl d_Mo_way_210 ?_
          refine g_iload_n C d_Mo_way_213 4 rfl ?_
          refine g_ialdN C 0 hT0 (show M (a 0) = some (aI tys 30 (f 0)) from hM.2.1 0 (by decide)) j (by omega) (by omega) d_Mo_way_214 ?_
          rw [hpj.1]
          refine g_calliP C (run_S C [.int (iI (s 1 i 0)), .int (iI (s 1 j 0))] k_Mo_122 (ct_Mo_apart l D tys A M (s 1 i 0) (s 1 j 0) (by omega)) ⟨rfl, rfl, Nat.le_of_ble_eq_true rfl, Nat.le_of_ble_eq_true rfl⟩ rfl rfl (Nat.le_of_ble_eq_true rfl) d_Mo_way_215 ⟨Nat.le_of_ble_eq_true rfl, Nat.le_of_ble_eq_true rfl⟩) (fun z11 hz11 => ?_)
          subst hz11
          refine g_imul C d_Mo_way_218 ?_
          refine g_iadd C d_Mo_way_219 ?_
          refine g_iload C d_Mo_way_220 0 rfl ?_
          refine g_iadd C d_Mo_way_222 ?_
          refine g_istore (lv' := [(7, .int (iI (((((sAbs (s 1 i 1) (s 2 k 0)) + (sAbs (s 1 i 2) (s 2 k 1))) + (s 2 k 4)) + ((s 2 k 5) * (sAbs (s 1 i 0) (s 1 j 0)))) + ((sAbs (s 1 j 1) (s 2 k 0)) + (sAbs (s 1 j 2) (s 2 k 1)))))), (6, .int (iI ((sAbs (s 1 j 1) (s 2 k 0)) + (sAbs (s 1 j 2) (s 2 k 1))))), (5, .int (iI ((sAbs (s 1 i 1) (s 2 k 0)) + (sAbs (s 1 i 2) (s 2 k 1))))), (0, .ref m), (1, .int (iI ((i : Int)))), (2, .int (iI ((j : Int)))), (3, .int (iI (sWayL (s 2) (s 1 i) (s 1 j) k))), (4, .int (iI ((k : Int))))]) C d_Mo_way_223 (by decide) rfl ?_
          rw [show ((((sAbs (s 1 i 1) (s 2 k 0)) + (sAbs (s 1 i 2) (s 2 k 1))) + (s 2 k 4)) + ((s 2 k 5) * (sAbs (s 1 i 0) (s 1 j 0)))) + ((sAbs (s 1 j 1) (s 2 k 0)) + (sAbs (s 1 j 2) (s 2 k 1))) = sLift (s 2 k) (s 1 i) (s 1 j) by unfold sLift sXY; omega]
          refine g_iload_n C d_Mo_way_225 6 rfl ?_
          refine g_if_lt C 235 d_Mo_way_226 rfl (by omega) (fun c12 => ?_) (fun c12 => ?_)
          · refine g_iload C d_Mo_way_235 0 rfl ?_
            refine g_goto C 241 d_Mo_way_237 rfl ?_
            refine g_istore_n (lv' := [(3, .int (iI (sLift (s 2 k) (s 1 i) (s 1 j)))), (7, .int (iI (sLift (s 2 k) (s 1 i) (s 1 j)))), (6, .int (iI ((sAbs (s 1 j 1) (s 2 k 0)) + (sAbs (s 1 j 2) (s 2 k 1))))), (5, .int (iI ((sAbs (s 1 i 1) (s 2 k 0)) + (sAbs (s 1 i 2) (s 2 k 1))))), (0, .ref m), (1, .int (iI ((i : Int)))), (2, .int (iI ((j : Int)))), (4, .int (iI ((k : Int))))]) C d_Mo_way_241 (by decide) rfl ?_
            refine g_iinc (lv' := [(4, .int (iI (((k : Int)) + 1))), (3, .int (iI (sLift (s 2 k) (s 1 i) (s 1 j)))), (7, .int (iI (sLift (s 2 k) (s 1 i) (s 1 j)))), (6, .int (iI ((sAbs (s 1 j 1) (s 2 k 0)) + (sAbs (s 1 j 2) (s 2 k 1))))), (5, .int (iI ((sAbs (s 1 i 1) (s 2 k 0)) + (sAbs (s 1 i 2) (s 2 k 1))))), (0, .ref m), (1, .int (iI ((i : Int)))), (2, .int (iI ((j : Int))))]) C d_Mo_way_242 7 rfl (by decide) rfl ?_
            refine g_goto C 52 d_Mo_way_245 rfl ?_
            rw [show sLift (s 2 k) (s 1 i) (s 1 j) = sWayL (s 2) (s 1 i) (s 1 j) (k + 1) by rw [sWayL.eq_2, if_pos (by omega), if_pos (by omega)]]
            exact g_sub [5, 6, 7, 1, 0] rfl (ih52 (k + 1) (by omega) (by omega))
          · refine g_iload C d_Mo_way_229 0 rfl ?_
            refine g_iload_n C d_Mo_way_231 6 rfl ?_
            refine g_icmp_ge C 240 d_Mo_way_232 rfl (by omega) (fun c13 => ?_) (fun c13 => ?_)
            · refine g_iload_n C d_Mo_way_240 6 rfl ?_
              refine g_istore_n (lv' := [(3, .int (iI (sWayL (s 2) (s 1 i) (s 1 j) k))), (7, .int (iI (sLift (s 2 k) (s 1 i) (s 1 j)))), (6, .int (iI ((sAbs (s 1 j 1) (s 2 k 0)) + (sAbs (s 1 j 2) (s 2 k 1))))), (5, .int (iI ((sAbs (s 1 i 1) (s 2 k 0)) + (sAbs (s 1 i 2) (s 2 k 1))))), (0, .ref m), (1, .int (iI ((i : Int)))), (2, .int (iI ((j : Int)))), (4, .int (iI ((k : Int))))]) C d_Mo_way_241 (by decide) rfl ?_
              refine g_iinc (lv' := [(4, .int (iI (((k : Int)) + 1))), (3, .int (iI (sWayL (s 2) (s 1 i) (s 1 j) k))), (7, .int (iI (sLift (s 2 k) (s 1 i) (s 1 j)))), (6, .int (iI ((sAbs (s 1 j 1) (s 2 k 0)) + (sAbs (s 1 j 2) (s 2 k 1))))), (5, .int (iI ((sAbs (s 1 i 1) (s 2 k 0)) + (sAbs (s 1 i 2) (s 2 k 1))))), (0, .ref m), (1, .int (iI ((i : Int)))), (2, .int (iI ((j : Int))))]) C d_Mo_way_242 7 rfl (by decide) rfl ?_
              refine g_goto C 52 d_Mo_way_245 rfl ?_
              rw [show sWayL (s 2) (s 1 i) (s 1 j) k = sWayL (s 2) (s 1 i) (s 1 j) (k + 1) by rw [sWayL.eq_2, if_pos (by omega), if_neg (by omega), if_neg (by omega)]]
              exact g_sub [5, 6, 7, 1, 0] rfl (ih52 (k + 1) (by omega) (by omega))
            · refine g_iload C d_Mo_way_235 0 rfl ?_
              refine g_goto C 241 d_Mo_way_237 rfl ?_
              refine g_istore_n (lv' := [(3, .int (iI (sLift (s 2 k) (s 1 i) (s 1 j)))), (7, .int (iI (sLift (s 2 k) (s 1 i) (s 1 j)))), (6, .int (iI ((sAbs (s 1 j 1) (s 2 k 0)) + (sAbs (s 1 j 2) (s 2 k 1))))), (5, .int (iI ((sAbs (s 1 i 1) (s 2 k 0)) + (sAbs (s 1 i 2) (s 2 k 1))))), (0, .ref m), (1, .int (iI ((i : Int)))), (2, .int (iI ((j : Int)))), (4, .int (iI ((k : Int))))]) C d_Mo_way_241 (by decide) rfl ?_
              refine g_iinc (lv' := [(4, .int (iI (((k : Int)) + 1))), (3, .int (iI (sLift (s 2 k) (s 1 i) (s 1 j)))), (7, .int (iI (sLift (s 2 k) (s 1 i) (s 1 j)))), (6, .int (iI ((sAbs (s 1 j 1) (s 2 k 0)) + (sAbs (s 1 j 2) (s 2 k 1))))), (5, .int (iI ((sAbs (s 1 i 1) (s 2 k 0)) + (sAbs (s 1 i 2) (s 2 k 1))))), (0, .ref m), (1, .int (iI ((i : Int)))), (2, .int (iI ((j : Int))))]) C d_Mo_way_242 7 rfl (by decide) rfl ?_
              refine g_goto C 52 d_Mo_way_245 rfl ?_
              rw [show sLift (s 2 k) (s 1 i) (s 1 j) = sWayL (s 2) (s 1 i) (s 1 j) (k + 1) by rw [sWayL.eq_2, if_pos (by omega), if_neg (by omega), if_pos (by omega)]]
              exact g_sub [5, 6, 7, 1, 0] rfl (ih52 (k + 1) (by omega) (by omega))
        · refine g_goto C 242 d_Mo_way_113 rfl ?_
          refine g_iinc (lv' := [(4, .int (iI (((k : Int)) + 1))), (0, .ref m), (1, .int (iI ((i : Int)))), (2, .int (iI ((j : Int)))), (3, .int (iI (sWayL (s 2) (s 1 i) (s 1 j) k)))]) C d_Mo_way_242 4 rfl (by decide) rfl ?_
          refine g_goto C 52 d_Mo_way_245 rfl ?_
          rw [show sWayL (s 2) (s 1 i) (s 1 j) k = sWayL (s 2) (s 1 i) (s 1 j) (k + 1) by rw [sWayL.eq_2, if_neg (by omega)]]
          exact g_sub [1, 2, 3, 4, 0] rfl (ih52 (k + 1) (by omega) (by omega))
  · refine g_aload_n C d_Mo_way_15 0 rfl ?_
    refine g_get C f_Mo_13 hM.1 rfl d_Mo_way_16 ?_
    refine g_iload_n C d_Mo_way_19 1 rfl ?_
    refine g_ialdN C 0 hT0 (show M (a 1) = some (aI tys 30 (f 1)) from hM.2.1 1 (by decide)) i (by omega) (by omega) d_Mo_way_20 ?_
    rw [hpi.2.1]
    refine g_aload_n C d_Mo_way_21 0 rfl ?_
    refine g_get C f_Mo_13 hM.1 rfl d_Mo_way_22 ?_
    refine g_iload_n C d_Mo_way_25 2 rfl ?_
    refine g_ialdN C 0 hT0 (show M (a 1) = some (aI tys 30 (f 1)) from hM.2.1 1 (by decide)) j (by omega) (by omega) d_Mo_way_26 ?_
    rw [hpj.2.1]
    refine g_calliP C (run_S C [.int (iI (s 1 i 1)), .int (iI (s 1 j 1))] k_Mo_122 (ct_Mo_apart l D tys A M (s 1 i 1) (s 1 j 1) (by omega)) ⟨rfl, rfl, Nat.le_of_ble_eq_true rfl, Nat.le_of_ble_eq_true rfl⟩ rfl rfl (Nat.le_of_ble_eq_true rfl) d_Mo_way_27 ⟨Nat.le_of_ble_eq_true rfl, Nat.le_of_ble_eq_true rfl⟩) (fun z14 hz14 => ?_)
    subst hz14
    refine g_aload_n C d_Mo_way_30 0 rfl ?_
    refine g_get C f_Mo_16 hM.1 rfl d_Mo_way_31 ?_
    refine g_iload_n C d_Mo_way_34 1 rfl ?_
    refine g_ialdN C 0 hT0 (show M (a 2) = some (aI tys 30 (f 2)) from hM.2.1 2 (by decide)) i (by omega) (by omega) d_Mo_way_35 ?_
    rw [hpi.2.2]
    refine g_aload_n C d_Mo_way_36 0 rfl ?_
    refine g_get C f_Mo_16 hM.1 rfl d_Mo_way_37 ?_
    refine g_iload_n C d_Mo_way_40 2 rfl ?_
    refine g_ialdN C 0 hT0 (show M (a 2) = some (aI tys 30 (f 2)) from hM.2.1 2 (by decide)) j (by omega) (by omega) d_Mo_way_41 ?_
    rw [hpj.2.2]
    refine g_calliP C (run_S C [.int (iI (s 1 i 2)), .int (iI (s 1 j 2))] k_Mo_122 (ct_Mo_apart l D tys A M (s 1 i 2) (s 1 j 2) (by omega)) ⟨rfl, rfl, Nat.le_of_ble_eq_true rfl, Nat.le_of_ble_eq_true rfl⟩ rfl rfl (Nat.le_of_ble_eq_true rfl) d_Mo_way_42 ⟨Nat.le_of_ble_eq_true rfl, Nat.le_of_ble_eq_true rfl⟩) (fun z15 hz15 => ?_)
    subst hz15
    refine g_iadd C d_Mo_way_45 ?_
    exact g_iretP C hr d_Mo_way_46 (by unfold sWay sXY; rw [if_pos (by omega)])
