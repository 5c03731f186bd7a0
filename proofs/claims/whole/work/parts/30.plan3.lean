/-! THE PLANNER, its answers: written by program (wip/whole/gen/plan3.py) -/
set_option maxHeartbeats 4000000 in
set_option maxRecDepth 100000 in
theorem ct_Pn_stopsWithin (l : Launch) (D : va_G) (tys : xK) (A : Nat → Prop) (M : Wm) (hT : tyOK tys) (a ca ga ra n : Nat) (L T : Nat → Int) (gc : Nat → Option Nat) (cq : Nat → Nat) (pp tt : Nat → Nat → Int) (hn : n ≤ 7) (hL : inB L) (hTb : inB T) (sec : Int) (hsec : 0 ≤ sec ∧ sec ≤ 100000) (hpn : M a = some (.inr (5, [.ref ca, .ref ga, .ref ra, .int (iI ((n : Int)))]))) (hga : M ga = some (aI tys 64 L)) (hra : M ra = some (aI tys 1024 T)) (hca : M ca = some (aR tys 4 7 gc)) (hch : ChA M n gc cq pp tt) : pT l y_Pn_stopsWithin b_Pn_stopsWithin 5 (some .int) { frames := 2, cells := 0, slots := 0, locals := 41 } D tys A [.ref a, .int (iI sec)] M (qP (fun z => z = ((sStp T (fun k_ => tt (cq k_) 4) sec n : Nat) : Int))) := by
  refine met_of (own := R_Pn) (lv := [(0, .ref a), (1, .int (iI sec))]) rfl (by decide) (Nat.le_of_ble_eq_true rfl) rfl ?_
  intro p_ e_ s_ m_ bl_ me_ c_ C hr hin
  have hT9 := hT
  obtain ⟨hT0, -, -, -, hT4, -⟩ := hT
  refine g_iconst C d_Pn_stopsWithin_0 ?_
  refine g_istore_n (lv' := [(2, .int (iI 0)), (0, .ref a), (1, .int (iI sec))]) C d_Pn_stopsWithin_1 (by decide) rfl ?_
  refine g_iconst C d_Pn_stopsWithin_2 ?_
  refine g_istore_n (lv' := [(3, .int (iI 0)), (2, .int (iI 0)), (0, .ref a), (1, .int (iI sec))]) C d_Pn_stopsWithin_3 (by decide) rfl ?_
  refine g_sub [2, 3, 1, 0] rfl (g_loop (σ := Nat) (fun x => n - x) (fun x => (x ≤ n)) (fun x => [(0, .ref a), (1, .int (iI sec)), (2, .int (iI (sSum (fun k_ => tt (cq k_) 4) x))), (3, .int (iI ((x : Int))))]) (fun x => M) ?_ (0) (Nat.zero_le _))
  intro x_ hI ih4
  obtain ⟨k, rfl⟩ : ∃ z, z = x_ := ⟨_, rfl⟩
  try dsimp only at hI ih4 ⊢
  obtain hk0 := hI
  refine g_iload_n C d_Pn_stopsWithin_4 3 rfl ?_
  refine g_aload_n C d_Pn_stopsWithin_5 0 rfl ?_
  refine g_get C f_Pn_24 hpn rfl d_Pn_stopsWithin_6 ?_
  refine g_icmp_ge C 30 d_Pn_stopsWithin_9 rfl (by omega) (fun c1 => ?_) (fun c1 => ?_)
  · refine g_aload_n C d_Pn_stopsWithin_30 0 rfl ?_
    refine g_get C f_Pn_24 hpn rfl d_Pn_stopsWithin_31 ?_
    refine g_istore_n (lv' := [(3, .int (iI ((n : Int)))), (0, .ref a), (1, .int (iI sec)), (2, .int (iI (sSum (fun k_ => tt (cq k_) 4) k)))]) C d_Pn_stopsWithin_34 (by decide) rfl ?_
    have eK : k = n := by omega
    rw [eK]
    refine g_sub [1, 2, 3, 0] rfl (g_loop (σ := Nat) (fun x => x) (fun x => (x ≤ n) ∧ (sStp T (fun k_ => tt (cq k_) 4) sec n = sStp T (fun k_ => tt (cq k_) 4) sec x)) (fun x => [(0, .ref a), (1, .int (iI sec)), (2, .int (iI (sSum (fun k_ => tt (cq k_) 4) x))), (3, .int (iI ((x : Int))))]) (fun x => M) ?_ (n) (⟨Nat.le_refl n, rfl⟩))
    intro x_ hI ih35
    obtain ⟨m, rfl⟩ : ∃ z, z = x_ := ⟨_, rfl⟩
    try dsimp only at hI ih35 ⊢
    obtain ⟨hm0, hst⟩ := hI
    have hsb := sSum_b (wk := (fun k_ => tt (cq k_) 4)) (n := m) (fun k_ hk_ => by obtain ⟨-, b_, -, -, ht_, -⟩ := hch k_ (by omega); unfold okT at ht_; first | omega | (dsimp only; omega))
    refine g_iload_n C d_Pn_stopsWithin_35 3 rfl ?_
    refine g_if_le C 83 d_Pn_stopsWithin_36 rfl (by omega) (fun c2 => ?_) (fun c2 => ?_)
    · refine g_iconst C d_Pn_stopsWithin_83 ?_
      exact g_iretP C hr d_Pn_stopsWithin_84 (by rw [hst, show m = 0 by omega]; rfl)
    · refine g_aload_n C d_Pn_stopsWithin_39 0 rfl ?_
      refine g_iload_n C d_Pn_stopsWithin_40 3 rfl ?_
      refine g_calliP C (run_V C [.int (iI ((m : Int)))] k_Pn_67 (ct_Pn_leastWalks l D tys A M hT9 a ca ga ra n L T hn hL hTb m (by omega) hpn hga hra) hpn ⟨rfl, rfl, Nat.le_of_ble_eq_true rfl, Nat.le_of_ble_eq_true rfl⟩ rfl rfl (Nat.le_of_ble_eq_true rfl) d_Pn_stopsWithin_41 ⟨Nat.le_of_ble_eq_true rfl, Nat.le_of_ble_eq_true rfl⟩) (fun z3 hz3 => ?_)
      have hbz3 := hTb ((2 ^ m - 1) * 8 + 7)
      refine g_istore (lv' := [(4, .int (iI z3)), (0, .ref a), (1, .int (iI sec)), (2, .int (iI (sSum (fun k_ => tt (cq k_) 4) m))), (3, .int (iI ((m : Int))))]) C d_Pn_stopsWithin_44 (by decide) rfl ?_
      refine g_iload C d_Pn_stopsWithin_46 0 rfl ?_
      refine g_ldc C 1000000 q_Pn_42 d_Pn_stopsWithin_48 ?_
      refine g_icmp_ge C 63 d_Pn_stopsWithin_50 rfl (by omega) (fun c4 => ?_) (fun c4 => ?_)
      · obtain ⟨h402, b2, hs2, hpk2, htk2, pa2, hb2, hpa2⟩ := hch ((m - 1)) (by omega)
        have htk92 := htk2
        unfold okT at htk92
        refine g_iload_n C d_Pn_stopsWithin_63 3 rfl ?_
        refine g_aload_n C d_Pn_stopsWithin_64 1 rfl ?_
        refine g_get C f_Pn_13 hpn rfl d_Pn_stopsWithin_65 ?_
        refine g_iload_n C d_Pn_stopsWithin_68 4 rfl ?_
        refine g_iconst C d_Pn_stopsWithin_69 ?_
        refine g_isub C d_Pn_stopsWithin_70 ?_
        refine g_aald C 4 hT4 hca (by omega) (by rw [show ((m : Int) - 1).toNat = (m - 1) by omega]; exact hs2) d_Pn_stopsWithin_71 ?_
        refine g_get C f_Pn_64 hb2 rfl d_Pn_stopsWithin_72 ?_
        refine g_isub C d_Pn_stopsWithin_75 ?_
        refine g_istore_n (lv' := [(2, .int (iI ((sSum (fun k_ => tt (cq k_) 4) m) - (tt (cq ((m - 1))) 4)))), (4, .int (iI z3)), (0, .ref a), (1, .int (iI sec)), (3, .int (iI ((m : Int))))]) C d_Pn_stopsWithin_76 (by decide) rfl ?_
        refine g_iinc (lv' := [(3, .int (iI (((m : Int)) + (-1)))), (2, .int (iI ((sSum (fun k_ => tt (cq k_) 4) m) - (tt (cq ((m - 1))) 4)))), (4, .int (iI z3)), (0, .ref a), (1, .int (iI sec))]) C d_Pn_stopsWithin_77 4 rfl (by decide) rfl ?_
        refine g_goto C 35 d_Pn_stopsWithin_80 rfl ?_
        have hS9 : sStp T (fun k_ => tt (cq k_) 4) sec m = sStp T (fun k_ => tt (cq k_) 4) sec (m - 1) := by
          rw [show m = (m - 1) + 1 by omega, sStp.eq_2, Nat.add_sub_cancel, if_neg (by rw [show (m - 1) + 1 = m by omega]; omega)]
        rw [show sSum (fun k_ => tt (cq k_) 4) m - tt (cq (m - 1)) 4 = sSum (fun k_ => tt (cq k_) 4) (m - 1) by rw [show m = (m - 1) + 1 by omega, sSum.eq_2, Nat.add_sub_cancel]; first | omega | (dsimp only; omega), show (m : Int) + (-1) = ((m - 1 : Nat) : Int) by omega]
        exact g_sub [3, 4, 1, 0] rfl (ih35 (m - 1) ⟨by omega, by rw [← hS9]; exact hst⟩ (by first | omega | (dsimp only; omega)))
      · refine g_iload C d_Pn_stopsWithin_53 0 rfl ?_
        refine g_iload_n C d_Pn_stopsWithin_55 3 rfl ?_
        refine g_iadd C d_Pn_stopsWithin_56 ?_
        refine g_iload_n C d_Pn_stopsWithin_57 2 rfl ?_
        refine g_icmp_gt C 63 d_Pn_stopsWithin_58 rfl (by omega) (fun c5 => ?_) (fun c5 => ?_)
        · obtain ⟨h402, b2, hs2, hpk2, htk2, pa2, hb2, hpa2⟩ := hch ((m - 1)) (by omega)
          have htk92 := htk2
          unfold okT at htk92
          refine g_iload_n C d_Pn_stopsWithin_63 3 rfl ?_
          refine g_aload_n C d_Pn_stopsWithin_64 1 rfl ?_
          refine g_get C f_Pn_13 hpn rfl d_Pn_stopsWithin_65 ?_
          refine g_iload_n C d_Pn_stopsWithin_68 4 rfl ?_
          refine g_iconst C d_Pn_stopsWithin_69 ?_
          refine g_isub C d_Pn_stopsWithin_70 ?_
          refine g_aald C 4 hT4 hca (by omega) (by rw [show ((m : Int) - 1).toNat = (m - 1) by omega]; exact hs2) d_Pn_stopsWithin_71 ?_
          refine g_get C f_Pn_64 hb2 rfl d_Pn_stopsWithin_72 ?_
          refine g_isub C d_Pn_stopsWithin_75 ?_
          refine g_istore_n (lv' := [(2, .int (iI ((sSum (fun k_ => tt (cq k_) 4) m) - (tt (cq ((m - 1))) 4)))), (4, .int (iI z3)), (0, .ref a), (1, .int (iI sec)), (3, .int (iI ((m : Int))))]) C d_Pn_stopsWithin_76 (by decide) rfl ?_
          refine g_iinc (lv' := [(3, .int (iI (((m : Int)) + (-1)))), (2, .int (iI ((sSum (fun k_ => tt (cq k_) 4) m) - (tt (cq ((m - 1))) 4)))), (4, .int (iI z3)), (0, .ref a), (1, .int (iI sec))]) C d_Pn_stopsWithin_77 4 rfl (by decide) rfl ?_
          refine g_goto C 35 d_Pn_stopsWithin_80 rfl ?_
          have hS9 : sStp T (fun k_ => tt (cq k_) 4) sec m = sStp T (fun k_ => tt (cq k_) 4) sec (m - 1) := by
            rw [show m = (m - 1) + 1 by omega, sStp.eq_2, Nat.add_sub_cancel, if_neg (by rw [show (m - 1) + 1 = m by omega]; omega)]
          rw [show sSum (fun k_ => tt (cq k_) 4) m - tt (cq (m - 1)) 4 = sSum (fun k_ => tt (cq k_) 4) (m - 1) by rw [show m = (m - 1) + 1 by omega, sSum.eq_2, Nat.add_sub_cancel]; first | omega | (dsimp only; omega), show (m : Int) + (-1) = ((m - 1 : Nat) : Int) by omega]
          exact g_sub [3, 4, 1, 0] rfl (ih35 (m - 1) ⟨by omega, by rw [← hS9]; exact hst⟩ (by first | omega | (dsimp only; omega)))
        · refine g_iload_n C d_Pn_stopsWithin_61 4 rfl ?_
          exact g_iretP C hr d_Pn_stopsWithin_62 (by rw [hst, show m = (m - 1) + 1 by omega, sStp.eq_2, if_pos (by rw [show (m - 1) + 1 = m by omega]; omega)])
  · obtain ⟨h401, b1, hs1, hpk1, htk1, pa1, hb1, hpa1⟩ := hch k (by omega)
    have htk91 := htk1
    unfold okT at htk91
    refine g_iload_n C d_Pn_stopsWithin_12 2 rfl ?_
    refine g_aload_n C d_Pn_stopsWithin_13 0 rfl ?_
    refine g_get C f_Pn_13 hpn rfl d_Pn_stopsWithin_14 ?_
    refine g_iload_n C d_Pn_stopsWithin_17 3 rfl ?_
    refine g_aald C 4 hT4 hca (by omega) (by rw [show (k : Int).toNat = k by omega]; exact hs1) d_Pn_stopsWithin_18 ?_
    refine g_get C f_Pn_64 hb1 rfl d_Pn_stopsWithin_19 ?_
    refine g_iadd C d_Pn_stopsWithin_22 ?_
    refine g_istore_n (lv' := [(2, .int (iI ((sSum (fun k_ => tt (cq k_) 4) k) + (tt (cq k) 4)))), (0, .ref a), (1, .int (iI sec)), (3, .int (iI ((k : Int))))]) C d_Pn_stopsWithin_23 (by decide) rfl ?_
    refine g_iinc (lv' := [(3, .int (iI (((k : Int)) + 1))), (2, .int (iI ((sSum (fun k_ => tt (cq k_) 4) k) + (tt (cq k) 4)))), (0, .ref a), (1, .int (iI sec))]) C d_Pn_stopsWithin_24 3 rfl (by decide) rfl ?_
    refine g_goto C 4 d_Pn_stopsWithin_27 rfl ?_
    rw [show sSum (fun k_ => tt (cq k_) 4) k + tt (cq k) 4 = sSum (fun k_ => tt (cq k_) 4) (k + 1) from rfl]
    exact g_sub [2, 3, 1, 0] rfl (ih4 (k + 1) (by omega) (by first | omega | (dsimp only; omega)))
set_option maxHeartbeats 4000000 in
set_option maxRecDepth 100000 in
theorem ct_Pn_nextNode (l : Launch) (D : va_G) (tys : xK) (A : Nat → Prop) (M : Wm) (hT : tyOK tys) (a ca ga ra n : Nat) (L T : Nat → Int) (gc : Nat → Option Nat) (cq : Nat → Nat) (pp tt : Nat → Nat → Int) (hn : n ≤ 7) (hL : inB L) (hTb : inB T) (v S : Nat) (hv : v ≤ 7) (hS : S < 128) (hpn : M a = some (.inr (5, [.ref ca, .ref ga, .ref ra, .int (iI ((n : Int)))]))) (hga : M ga = some (aI tys 64 L)) (hra : M ra = some (aI tys 1024 T)) (hca : M ca = some (aR tys 4 7 gc)) (hch : ChA M n gc cq pp tt) : pT l y_Pn_nextNode b_Pn_nextNode 5 (some .int) { frames := 1, cells := 0, slots := 0, locals := 23 } D tys A [.ref a, .int (iI ((v : Int))), .int (iI ((S : Int)))] M (qP (fun z => z = sNx L T (fun k_ => ((cq k_ : Nat) : Int)) S v n)) := by
  refine met_of (own := R_Pn) (lv := [(0, .ref a), (1, .int (iI ((v : Int)))), (2, .int (iI ((S : Int))))]) rfl (by decide) (Nat.le_of_ble_eq_true rfl) rfl ?_
  intro p_ e_ s_ m_ bl_ me_ c_ C hr hin
  have hT9 := hT
  obtain ⟨hT0, -, -, -, hT4, -⟩ := hT
  refine g_iconst C d_Pn_nextNode_0 ?_
  refine g_istore_n (lv' := [(3, .int (iI ((-1)))), (0, .ref a), (1, .int (iI ((v : Int)))), (2, .int (iI ((S : Int))))]) C d_Pn_nextNode_1 (by decide) rfl ?_
  refine g_iconst C d_Pn_nextNode_2 ?_
  refine g_istore (lv' := [(4, .int (iI 0)), (3, .int (iI ((-1)))), (0, .ref a), (1, .int (iI ((v : Int)))), (2, .int (iI ((S : Int))))]) C d_Pn_nextNode_3 (by decide) rfl ?_
  refine g_sub [2, 3, 4, 1, 0] rfl (g_loop (σ := Nat) (fun x => n - x) (fun x => (x ≤ n)) (fun x => [(0, .ref a), (1, .int (iI ((v : Int)))), (2, .int (iI ((S : Int)))), (3, .int (iI (sNx L T (fun k_ => ((cq k_ : Nat) : Int)) S v x))), (4, .int (iI ((x : Int))))]) (fun x => M) ?_ (0) (Nat.zero_le _))
  intro x_ hI ih5
  obtain ⟨k, rfl⟩ : ∃ z, z = x_ := ⟨_, rfl⟩
  try dsimp only at hI ih5 ⊢
  obtain hk0 := hI
  have hxb := sNx_b (L := L) (T := T) (num := (fun k_ => ((cq k_ : Nat) : Int))) (S := S) (v := v) k
  have hTv := hTb (S * 8 + v)
  refine g_iload C d_Pn_nextNode_5 4 rfl ?_
  refine g_aload_n C d_Pn_nextNode_7 0 rfl ?_
  refine g_get C f_Pn_24 hpn rfl d_Pn_nextNode_8 ?_
  refine g_icmp_ge C 81 d_Pn_nextNode_11 rfl (by omega) (fun c1 => ?_) (fun c1 => ?_)
  · refine g_iload_n C d_Pn_nextNode_81 3 rfl ?_
    exact g_iretP C hr d_Pn_nextNode_82 (by rw [show k = n by omega])
  · refine g_iload C d_Pn_nextNode_14 4 rfl ?_
    refine g_iload_n C d_Pn_nextNode_16 2 rfl ?_
    refine g_calliP C (run_S C [.int (iI ((k : Int))), .int (iI ((S : Int)))] k_Pn_43 (ct_Pn_isIn l D tys A M k S (by omega) (by omega)) ⟨rfl, rfl, Nat.le_of_ble_eq_true rfl, Nat.le_of_ble_eq_true rfl⟩ rfl rfl (Nat.le_of_ble_eq_true rfl) d_Pn_nextNode_17 ⟨Nat.le_of_ble_eq_true rfl, Nat.le_of_ble_eq_true rfl⟩) (fun z2 hz2 => ?_)
    refine g_if_eq C 75 d_Pn_nextNode_20 rfl (by omega) (fun c3 => ?_) (fun c3 => ?_)
    · refine g_iinc (lv' := [(4, .int (iI (((k : Int)) + 1))), (0, .ref a), (1, .int (iI ((v : Int)))), (2, .int (iI ((S : Int)))), (3, .int (iI (sNx L T (fun k_ => ((cq k_ : Nat) : Int)) S v k)))]) C d_Pn_nextNode_75 4 rfl (by decide) rfl ?_
      refine g_goto C 5 d_Pn_nextNode_78 rfl ?_
      have hE : sNx L T (fun k_ => ((cq k_ : Nat) : Int)) S v (k + 1) = sNx L T (fun k_ => ((cq k_ : Nat) : Int)) S v k := by
        rw [sNx.eq_2, if_neg (by first | omega | (dsimp only; omega))]
      rw [← hE]
      exact g_sub [1, 2, 3, 4, 0] rfl (ih5 (k + 1) (by omega) (by first | omega | (dsimp only; omega)))
    · refine g_aload_n C d_Pn_nextNode_23 0 rfl ?_
      refine g_iload_n C d_Pn_nextNode_24 1 rfl ?_
      refine g_iload C d_Pn_nextNode_25 4 rfl ?_
      refine g_iload_n C d_Pn_nextNode_27 2 rfl ?_
      refine g_calliP C (run_V C [.int (iI ((v : Int))), .int (iI ((k : Int))), .int (iI ((S : Int)))] k_Pn_51 (ct_Pn_restBy l D tys A M hT9 a ca ga ra n L T hn hL hTb v k S (by omega) (by omega) (by omega) (by omega) hpn hga hra) hpn ⟨rfl, rfl, Nat.le_of_ble_eq_true rfl, Nat.le_of_ble_eq_true rfl⟩ rfl rfl (Nat.le_of_ble_eq_true rfl) d_Pn_nextNode_28 ⟨Nat.le_of_ble_eq_true rfl, Nat.le_of_ble_eq_true rfl⟩) (fun z4 hz4 => ?_)
      have hb1z4 := hL (v * 8 + k)
      have hb2z4 := hTb ((S - 2 ^ k) * 8 + k)
      refine g_aload_n C d_Pn_nextNode_31 0 rfl ?_
      refine g_get C f_Pn_21 hpn rfl d_Pn_nextNode_32 ?_
      refine g_iload_n C d_Pn_nextNode_35 2 rfl ?_
      refine g_bipush C d_Pn_nextNode_36 (by decide) ?_
      refine g_imul C d_Pn_nextNode_38 ?_
      refine g_iload_n C d_Pn_nextNode_39 1 rfl ?_
      refine g_iadd C d_Pn_nextNode_40 ?_
      refine g_iald C 0 hT0 hra (by omega) d_Pn_nextNode_41 ?_
      rw [show ((S : Int) * 8 + (v : Int)).toNat = S * 8 + v by omega]
      refine g_icmp_ne C 75 d_Pn_nextNode_42 rfl (by omega) (fun c5 => ?_) (fun c5 => ?_)
      · refine g_iinc (lv' := [(4, .int (iI (((k : Int)) + 1))), (0, .ref a), (1, .int (iI ((v : Int)))), (2, .int (iI ((S : Int)))), (3, .int (iI (sNx L T (fun k_ => ((cq k_ : Nat) : Int)) S v k)))]) C d_Pn_nextNode_75 4 rfl (by decide) rfl ?_
        refine g_goto C 5 d_Pn_nextNode_78 rfl ?_
        have hE : sNx L T (fun k_ => ((cq k_ : Nat) : Int)) S v (k + 1) = sNx L T (fun k_ => ((cq k_ : Nat) : Int)) S v k := by
          rw [sNx.eq_2, if_neg (by first | omega | (dsimp only; omega))]
        rw [← hE]
        exact g_sub [1, 2, 3, 4, 0] rfl (ih5 (k + 1) (by omega) (by first | omega | (dsimp only; omega)))
      · refine g_iload_n C d_Pn_nextNode_45 3 rfl ?_
        refine g_iconst C d_Pn_nextNode_46 ?_
        refine g_icmp_eq C 72 d_Pn_nextNode_47 rfl (by omega) (fun c6 => ?_) (fun c6 => ?_)
        · refine g_iload C d_Pn_nextNode_72 4 rfl ?_
          refine g_istore_n (lv' := [(3, .int (iI ((k : Int)))), (0, .ref a), (1, .int (iI ((v : Int)))), (2, .int (iI ((S : Int)))), (4, .int (iI ((k : Int))))]) C d_Pn_nextNode_74 (by decide) rfl ?_
          refine g_iinc (lv' := [(4, .int (iI (((k : Int)) + 1))), (3, .int (iI ((k : Int)))), (0, .ref a), (1, .int (iI ((v : Int)))), (2, .int (iI ((S : Int))))]) C d_Pn_nextNode_75 4 rfl (by decide) rfl ?_
          refine g_goto C 5 d_Pn_nextNode_78 rfl ?_
          have hE : (k : Int) = sNx L T (fun k_ => ((cq k_ : Nat) : Int)) S v (k + 1) := by
            rw [sNx.eq_2, if_pos (by first | omega | (dsimp only; omega))]
          refine g_eq (lv' := [(4, .int (iI ((k : Int) + 1))), (3, .int (iI (sNx L T (fun k_ => ((cq k_ : Nat) : Int)) S v (k + 1)))), (0, .ref a), (1, .int (iI (v : Int))), (2, .int (iI (S : Int)))]) (by rw [← hE]) rfl ?_
          exact g_sub [2, 3, 4, 1, 0] rfl (ih5 (k + 1) (by omega) (by first | omega | (dsimp only; omega)))
        · obtain ⟨h401, b1, hs1, hpk1, htk1, pa1, hb1, hpa1⟩ := hch k (by omega)
          have htk91 := htk1
          unfold okT at htk91
          obtain ⟨h402, b2, hs2, hpk2, htk2, pa2, hb2, hpa2⟩ := hch ((sNx L T (fun k_ => ((cq k_ : Nat) : Int)) S v k).toNat) (by omega)
          have htk92 := htk2
          unfold okT at htk92
          refine g_aload_n C d_Pn_nextNode_50 0 rfl ?_
          refine g_get C f_Pn_13 hpn rfl d_Pn_nextNode_51 ?_
          refine g_iload C d_Pn_nextNode_54 4 rfl ?_
          refine g_aald C 4 hT4 hca (by omega) (by rw [show (k : Int).toNat = k by omega]; exact hs1) d_Pn_nextNode_56 ?_
          refine g_get C f_Pn_82 hb1 rfl d_Pn_nextNode_57 ?_
          refine g_aload_n C d_Pn_nextNode_60 0 rfl ?_
          refine g_get C f_Pn_13 hpn rfl d_Pn_nextNode_61 ?_
          refine g_iload_n C d_Pn_nextNode_64 3 rfl ?_
          refine g_aald C 4 hT4 hca (by omega) hs2 d_Pn_nextNode_65 ?_
          refine g_get C f_Pn_82 hb2 rfl d_Pn_nextNode_66 ?_
          refine g_icmp_ge C 75 d_Pn_nextNode_69 rfl (by omega) (fun c7 => ?_) (fun c7 => ?_)
          · refine g_iinc (lv' := [(4, .int (iI (((k : Int)) + 1))), (0, .ref a), (1, .int (iI ((v : Int)))), (2, .int (iI ((S : Int)))), (3, .int (iI (sNx L T (fun k_ => ((cq k_ : Nat) : Int)) S v k)))]) C d_Pn_nextNode_75 4 rfl (by decide) rfl ?_
            refine g_goto C 5 d_Pn_nextNode_78 rfl ?_
            have hE : sNx L T (fun k_ => ((cq k_ : Nat) : Int)) S v (k + 1) = sNx L T (fun k_ => ((cq k_ : Nat) : Int)) S v k := by
              rw [sNx.eq_2, if_neg (by first | omega | (dsimp only; omega))]
            rw [← hE]
            exact g_sub [1, 2, 3, 4, 0] rfl (ih5 (k + 1) (by omega) (by first | omega | (dsimp only; omega)))
          · refine g_iload C d_Pn_nextNode_72 4 rfl ?_
            refine g_istore_n (lv' := [(3, .int (iI ((k : Int)))), (0, .ref a), (1, .int (iI ((v : Int)))), (2, .int (iI ((S : Int)))), (4, .int (iI ((k : Int))))]) C d_Pn_nextNode_74 (by decide) rfl ?_
            refine g_iinc (lv' := [(4, .int (iI (((k : Int)) + 1))), (3, .int (iI ((k : Int)))), (0, .ref a), (1, .int (iI ((v : Int)))), (2, .int (iI ((S : Int))))]) C d_Pn_nextNode_75 4 rfl (by decide) rfl ?_
            refine g_goto C 5 d_Pn_nextNode_78 rfl ?_
            have hE : (k : Int) = sNx L T (fun k_ => ((cq k_ : Nat) : Int)) S v (k + 1) := by
              rw [sNx.eq_2, if_pos (by first | omega | (dsimp only; omega))]
            refine g_eq (lv' := [(4, .int (iI ((k : Int) + 1))), (3, .int (iI (sNx L T (fun k_ => ((cq k_ : Nat) : Int)) S v (k + 1)))), (0, .ref a), (1, .int (iI (v : Int))), (2, .int (iI (S : Int)))]) (by rw [← hE]) rfl ?_
            exact g_sub [2, 3, 4, 1, 0] rfl (ih5 (k + 1) (by omega) (by first | omega | (dsimp only; omega)))
