/-! THE MODEL, next: written by program (wip/whole/gen/mo7.py) -/
set_option maxHeartbeats 4000000 in
set_option maxRecDepth 100000 in
theorem ct_Mo_next (l : Launch) (D : va_G) (tys : xK) (A : Nat → Prop) (M : Wm) (hT : tyOK tys) (m : Nat) (a : Nat → Nat) (f : Nat → Nat → Int) (v0 v1 v2 v3 v4 v5 v6 v7 v8 v9 : Int) (n : Nat) (hn : 1 ≤ n ∧ n ≤ 7) (u : Nat → Nat) (hu : ∀ k, k < n → f 25 k = ((u k : Nat) : Int) ∧ u k < 40) (hin9 : ∀ i j, i < n → j < n → u i = u j → i = j) (hM : MA tys M m a f v0 v1 v2 v3 v4 v5 v6 v7 v8 v9) : mT l y_Mo_next b_Mo_next 6 (some .boolean) { frames := 1, cells := 0, slots := 0, locals := 23 } D tys A [.ref m, .int (iI ((n : Int)))] M (qI D A (fun z M' => (z = 0 ∧ (∀ k, k + 1 < n → u (k + 1) < u k) ∧ MA tys M' m a f v0 v1 v2 v3 v4 v5 v6 v7 v8 v9) ∨ (z = 1 ∧ ∃ (u' : Nat → Nat) (g : Nat → Int), SC (sf u 0 n) (sf u' 0 n) ∧ (∀ k, k < n → g k = ((u' k : Nat) : Int)) ∧ MA tys M' m a (va_up f 25 g) v0 v1 v2 v3 v4 v5 v6 v7 v8 v9))) 0 0 := by
  refine met_of (own := R_Mo) (lv := [(0, .ref m), (1, .int (iI ((n : Int))))]) rfl (by decide) (Nat.le_of_ble_eq_true rfl) rfl ?_
  intro p_ e_ s_ m_ bl_ me_ c_ C hr hin
  have hT9 := hT
  obtain ⟨hT0, hT1, hT2, hT3, hT4, hT5, hT32, hT42, hT52, hT43, hT53, hT54⟩ := hT
  refine g_iload_n C d_Mo_next_0 1 rfl ?_
  refine g_iconst C d_Mo_next_1 ?_
  refine g_isub C d_Mo_next_2 ?_
  refine g_istore_n (lv' := [(2, .int (iI (((n : Int)) - 2))), (0, .ref m), (1, .int (iI ((n : Int))))]) C d_Mo_next_3 (by decide) rfl ?_
  refine g_eq (lv' := [(2, .int (iI ((((n - 1 : Nat) : Int)) - 1))), (0, .ref m), (1, .int (iI ((n : Int))))]) (by rw [show ((n : Int)) - 2 = (((n - 1 : Nat) : Int)) - 1 by omega]) rfl ?_
  refine g_sub [1, 2, 0] rfl (g_loop (σ := Nat) (fun q_ => q_) (fun q_ => (q_ + 1 ≤ n) ∧ (∀ t_, q_ ≤ t_ → t_ + 1 < n → u (t_ + 1) < u t_)) (fun q_ => [(0, .ref m), (1, .int (iI ((n : Int)))), (2, .int (iI (((q_ : Int)) - 1)))]) (fun q_ => M) ?_ (n - 1) (⟨(by omega), (fun q_ h1_ h2_ => by omega)⟩))
  intro x_ hI ih4
  obtain ⟨k, rfl⟩ : ∃ z, z = x_ := ⟨_, rfl⟩
  try dsimp only at hI ih4 ⊢
  obtain ⟨hk0, hdc⟩ := hI
  refine g_iload_n C d_Mo_next_4 2 rfl ?_
  refine g_if_lt C 31 d_Mo_next_5 rfl (by omega) (fun c1 => ?_) (fun c1 => ?_)
  · refine g_iload_n C d_Mo_next_31 2 rfl ?_
    refine g_if_ge C 37 d_Mo_next_32 rfl (by omega) (fun c2 => ?_) (fun c2 => ?_)
    · exfalso; omega
    · refine g_iconst C d_Mo_next_35 ?_
      exact g_zret C hr (by omega) d_Mo_next_36 (Or.inl ⟨rfl, fun k_ hk_ => hdc k_ (by omega) hk_, hM⟩)
  · obtain ⟨hu1, hu2⟩ := hu (k - 1) (by omega)
    obtain ⟨hu3, hu4⟩ := hu k (by omega)
    refine g_aload_n C d_Mo_next_8 0 rfl ?_
    refine g_get C f_Mo_89 hM.1 rfl d_Mo_next_9 ?_
    refine g_iload_n C d_Mo_next_12 2 rfl ?_
    refine g_ialdN C 0 hT0 (show M (a 25) = some (aI tys 7 (f 25)) from hM.2.1 25 (by decide)) (k - 1) (by omega) (by omega) d_Mo_next_13 ?_
    rw [hu1]
    refine g_aload_n C d_Mo_next_14 0 rfl ?_
    refine g_get C f_Mo_89 hM.1 rfl d_Mo_next_15 ?_
    refine g_iload_n C d_Mo_next_18 2 rfl ?_
    refine g_iconst C d_Mo_next_19 ?_
    refine g_iadd C d_Mo_next_20 ?_
    refine g_ialdN C 0 hT0 (show M (a 25) = some (aI tys 7 (f 25)) from hM.2.1 25 (by decide)) k (by omega) (by omega) d_Mo_next_21 ?_
    rw [hu3]
    refine g_icmp_le C 31 d_Mo_next_22 rfl (by omega) (fun c3 => ?_) (fun c3 => ?_)
    · refine g_iload_n C d_Mo_next_31 2 rfl ?_
      refine g_if_ge C 37 d_Mo_next_32 rfl (by omega) (fun c4 => ?_) (fun c4 => ?_)
      · obtain ⟨i, rfl⟩ : ∃ i, k = i + 1 := ⟨k - 1, by omega⟩
        refine g_eq (lv' := [(0, .ref m), (1, .int (iI ((n : Int)))), (2, .int (iI ((i : Int))))]) (by rw [show (((i + 1 : Nat) : Int)) - 1 = (i : Int) by omega]) rfl ?_
        have hui : u i < u (i + 1) := by
          have h1_ : u (i + 1 - 1) ≤ u (i + 1) := by omega
          rw [Nat.add_sub_cancel] at h1_
          have h2_ : u i ≠ u (i + 1) := fun e_ => by have := hin9 i (i + 1) (by omega) (by omega) e_; omega
          omega
        refine g_iload_n C d_Mo_next_37 1 rfl ?_
        refine g_iconst C d_Mo_next_38 ?_
        refine g_isub C d_Mo_next_39 ?_
        refine g_istore_n (lv' := [(3, .int (iI (((n : Int)) - 1))), (0, .ref m), (1, .int (iI ((n : Int)))), (2, .int (iI ((i : Int))))]) C d_Mo_next_40 (by decide) rfl ?_
        refine g_eq (lv' := [(3, .int (iI (((n - 1 : Nat) : Int)))), (0, .ref m), (1, .int (iI ((n : Int)))), (2, .int (iI ((i : Int))))]) (by rw [show ((n : Int)) - 1 = ((n - 1 : Nat) : Int) by omega]) rfl ?_
        refine g_sub [1, 2, 3, 0] rfl (g_loop (σ := Nat) (fun q_ => q_) (fun q_ => (i < q_ ∧ q_ < n) ∧ (∀ t_, q_ < t_ → t_ < n → u t_ < u i)) (fun q_ => [(0, .ref m), (1, .int (iI ((n : Int)))), (2, .int (iI ((i : Int)))), (3, .int (iI ((q_ : Int))))]) (fun q_ => M) ?_ (n - 1) (⟨(by omega), (fun q_ h1_ h2_ => by omega)⟩))
        intro x_ hI ih41
        obtain ⟨j, rfl⟩ : ∃ z, z = x_ := ⟨_, rfl⟩
        try dsimp only at hI ih41 ⊢
        obtain ⟨hj0, hjl⟩ := hI
        refine g_aload_n C d_Mo_next_41 0 rfl ?_
        refine g_get C f_Mo_89 hM.1 rfl d_Mo_next_42 ?_
        have hu5 := (hu j (by omega)).2
        have hu6 := (hu i (by omega)).2
        refine g_iload_n C d_Mo_next_45 3 rfl ?_
        refine g_ialdN C 0 hT0 (show M (a 25) = some (aI tys 7 (f 25)) from hM.2.1 25 (by decide)) j (by omega) (by omega) d_Mo_next_46 ?_
        rw [(hu j (by omega)).1]
        refine g_aload_n C d_Mo_next_47 0 rfl ?_
        refine g_get C f_Mo_89 hM.1 rfl d_Mo_next_48 ?_
        refine g_iload_n C d_Mo_next_51 2 rfl ?_
        refine g_ialdN C 0 hT0 (show M (a 25) = some (aI tys 7 (f 25)) from hM.2.1 25 (by decide)) i (by omega) (by omega) d_Mo_next_52 ?_
        rw [(hu i (by omega)).1]
        refine g_icmp_ge C 62 d_Mo_next_53 rfl (by omega) (fun c5 => ?_) (fun c5 => ?_)
        · have hij : u i < u j := by
            have h2_ : u i ≠ u j := fun e_ => by have := hin9 i j (by omega) (by omega) e_; omega
            omega
          refine g_aload_n C d_Mo_next_62 0 rfl ?_
          refine g_iload_n C d_Mo_next_63 2 rfl ?_
          refine g_iload_n C d_Mo_next_64 3 rfl ?_
          refine g_callv C (run_V C [.int (iI ((i : Int))), .int (iI ((j : Int)))] k_Mo_133 (ct_Mo_swap l D tys A M hT9 m a f v0 v1 v2 v3 v4 v5 v6 v7 v8 v9 i j (by omega) hM) hM.1 ⟨rfl, rfl, Nat.le_of_ble_eq_true rfl, Nat.le_of_ble_eq_true rfl⟩ rfl rfl (Nat.le_of_ble_eq_true rfl) d_Mo_next_65 ⟨Nat.le_of_ble_eq_true rfl, Nat.le_of_ble_eq_true rfl⟩) (fun M6 hM6 => ?_)
          refine g_iload_n C d_Mo_next_68 2 rfl ?_
          refine g_iconst C d_Mo_next_69 ?_
          refine g_iadd C d_Mo_next_70 ?_
          refine g_istore (lv' := [(4, .int (iI (((i : Int)) + 1))), (0, .ref m), (1, .int (iI ((n : Int)))), (2, .int (iI ((i : Int)))), (3, .int (iI ((j : Int))))]) C d_Mo_next_71 (by decide) rfl ?_
          refine g_iload_n C d_Mo_next_73 2 rfl ?_
          refine g_iconst C d_Mo_next_74 ?_
          refine g_isub C d_Mo_next_75 ?_
          refine g_istore (lv' := [(5, .int (iI (((n : Int)) - 1))), (4, .int (iI (((i : Int)) + 1))), (0, .ref m), (1, .int (iI ((n : Int)))), (2, .int (iI ((i : Int)))), (3, .int (iI ((j : Int))))]) C d_Mo_next_76 (by decide) rfl ?_
          refine g_eq (lv' := [(5, .int (iI (((n - 1 - 0 : Nat) : Int)))), (4, .int (iI (((i + 1 + 0 : Nat) : Int)))), (0, .ref m), (1, .int (iI ((n : Int)))), (2, .int (iI ((i : Int)))), (3, .int (iI ((j : Int))))]) (by rw [show ((i : Int)) + 1 = ((i + 1 + 0 : Nat) : Int) by omega, show ((n : Int)) - 1 = ((n - 1 - 0 : Nat) : Int) by omega]) rfl ?_
          have hg0 : ∀ k_, k_ < n → (va_up (va_up (f 25) i ((f 25) j)) j ((f 25) i)) k_ = ((rvu u n i j 0 k_ : Nat) : Int) := fun k_ hk_ => by rw [rvu_0 hk_]; exact sw_ok hj0 (fun q_ hq_ => (hu q_ hq_).1) k_ hk_
          refine g_toX ?_
          refine g_sub [2, 3, 4, 5, 1, 0] rfl (g_loop (σ := Nat × (Nat → Int) × Wm) (fun q_ => n - 2 * q_.1) (fun q_ => (i + 1 + 2 * q_.1 ≤ n) ∧ (∀ k_, k_ < n → q_.2.1 k_ = ((rvu u n i j q_.1 k_ : Nat) : Int)) ∧ (MA tys q_.2.2 m a (va_up f 25 q_.2.1) v0 v1 v2 v3 v4 v5 v6 v7 v8 v9)) (fun q_ => [(0, .ref m), (1, .int (iI ((n : Int)))), (2, .int (iI ((i : Int)))), (3, .int (iI ((j : Int)))), (4, .int (iI (((i + 1 + q_.1 : Nat) : Int)))), (5, .int (iI (((n - 1 - q_.1 : Nat) : Int))))]) (fun q_ => q_.2.2) ?_ (0, (va_up (va_up (f 25) i ((f 25) j)) j ((f 25) i)), M6) (⟨(show i + 1 + 2 * 0 ≤ n by omega), hg0, hM6⟩))
          intro x_ hI ih78
          obtain ⟨c, g, Mw⟩ := x_
          try dsimp only at hI ih78 ⊢
          obtain ⟨hc0, hg, hMw⟩ := hI
          refine g_iload C d_Mo_next_78 4 rfl ?_
          refine g_iload C d_Mo_next_80 5 rfl ?_
          refine g_icmp_ge C 102 d_Mo_next_82 rfl (by omega) (fun c7 => ?_) (fun c7 => ?_)
          · refine g_iconst C d_Mo_next_102 ?_
            exact g_zret C hr (by omega) d_Mo_next_103 (Or.inr ⟨rfl, nxu u n i j, g, next_ok hj0 (fun k_ h1_ h2_ => hdc k_ (by omega) h2_) hij (fun k_ h1_ h2_ => hjl k_ h1_ h2_), fun k_ hk_ => by rw [hg k_ hk_, rvu_e hj0 hc0 (by omega) hk_], hMw⟩)
          · refine g_aload_n C d_Mo_next_85 0 rfl ?_
            refine g_iload C d_Mo_next_86 4 rfl ?_
            refine g_iload C d_Mo_next_88 5 rfl ?_
            refine g_callv C (run_V C [.int (iI (((i + 1 + c : Nat) : Int))), .int (iI (((n - 1 - c : Nat) : Int)))] k_Mo_133 (ct_Mo_swap l D tys A Mw hT9 m a (va_up f 25 g) v0 v1 v2 v3 v4 v5 v6 v7 v8 v9 (i + 1 + c) (n - 1 - c) (by omega) hMw) hMw.1 ⟨rfl, rfl, Nat.le_of_ble_eq_true rfl, Nat.le_of_ble_eq_true rfl⟩ rfl rfl (Nat.le_of_ble_eq_true rfl) d_Mo_next_90 ⟨Nat.le_of_ble_eq_true rfl, Nat.le_of_ble_eq_true rfl⟩) (fun M8 hM8 => ?_)
            refine g_iinc (lv' := [(4, .int (iI ((((i + 1 + c : Nat) : Int)) + 1))), (0, .ref m), (1, .int (iI ((n : Int)))), (2, .int (iI ((i : Int)))), (3, .int (iI ((j : Int)))), (5, .int (iI (((n - 1 - c : Nat) : Int))))]) C d_Mo_next_93 4 rfl (by decide) rfl ?_
            refine g_iinc (lv' := [(5, .int (iI ((((n - 1 - c : Nat) : Int)) + (-1)))), (4, .int (iI ((((i + 1 + c : Nat) : Int)) + 1))), (0, .ref m), (1, .int (iI ((n : Int)))), (2, .int (iI ((i : Int)))), (3, .int (iI ((j : Int))))]) C d_Mo_next_96 5 rfl (by decide) rfl ?_
            refine g_goto C 78 d_Mo_next_99 rfl ?_
            rw [show ((i + 1 + c : Nat) : Int) + 1 = ((i + 1 + (c + 1) : Nat) : Int) by omega, show ((n - 1 - c : Nat) : Int) + (-1) = ((n - 1 - (c + 1) : Nat) : Int) by omega]
            have hMs2 : MA tys M8 m a (va_up f 25 (va_up (va_up g (i + 1 + c) (g (n - 1 - c))) (n - 1 - c) (g (i + 1 + c)))) v0 v1 v2 v3 v4 v5 v6 v7 v8 v9 := by have h_ := hM8; rw [bx_uu] at h_; exact h_
            exact g_sub [2, 3, 4, 5, 1, 0] rfl (ih78 (c + 1, (va_up (va_up g (i + 1 + c) (g (n - 1 - c))) (n - 1 - c) (g (i + 1 + c))), M8) ⟨(show i + 1 + 2 * (c + 1) ≤ n by omega), (rvu_s (by omega) hg), hMs2⟩ (by first | omega | (dsimp only; omega)))
        · refine g_iinc (lv' := [(3, .int (iI (((j : Int)) + (-1)))), (0, .ref m), (1, .int (iI ((n : Int)))), (2, .int (iI ((i : Int))))]) C d_Mo_next_56 3 rfl (by decide) rfl ?_
          refine g_goto C 41 d_Mo_next_59 rfl ?_
          rw [show ((j : Int)) + (-1) = ((j - 1 : Nat) : Int) by omega]
          have hji : i + 1 < j := by
            by_cases e_ : j = i + 1
            · subst e_; omega
            · omega
          have hjl2 : ∀ q_, j - 1 < q_ → q_ < n → u q_ < u i := by
            intro q_ h1_ h2_
            by_cases e_ : q_ = j
            · subst e_; omega
            · exact hjl q_ (by omega) h2_
          exact g_sub [1, 2, 3, 0] rfl (ih41 (j - 1) ⟨(by omega), hjl2⟩ (by first | omega | (dsimp only; omega)))
      · exfalso; omega
    · refine g_iinc (lv' := [(2, .int (iI ((((k : Int)) - 1) + (-1)))), (0, .ref m), (1, .int (iI ((n : Int))))]) C d_Mo_next_25 2 rfl (by decide) rfl ?_
      refine g_goto C 4 d_Mo_next_28 rfl ?_
      rw [show (((k : Int)) - 1) + (-1) = (((k - 1 : Nat) : Int)) - 1 by omega]
      have hdc2 : ∀ q_, k - 1 ≤ q_ → q_ + 1 < n → u (q_ + 1) < u q_ := by
        intro q_ h1_ h2_
        by_cases e_ : q_ = k - 1
        · subst e_; rw [show k - 1 + 1 = k by omega]; omega
        · exact hdc q_ (by omega) h2_
      exact g_sub [1, 2, 0] rfl (ih4 (k - 1) ⟨(by omega), hdc2⟩ (by first | omega | (dsimp only; omega)))
