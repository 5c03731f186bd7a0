/-! THE WRAPPERS: each calls the class once, and says what came of it. -/
theorem cl_La_13 : Cond.classLink R_La 13 xIA ∈ xAll := xa_t 155 (by decide +kernel) rfl
theorem cl_La_15 : Cond.classLink R_La 15 xIS ∈ xAll := xa_t 156 (by decide +kernel) rfl
abbrev hh_La_place : List (Nat × Nat × Nat × Nat) := [(0, 12, 15, 13), (0, 12, 19, 15)]
theorem ct_La_place (l : Launch) (hl0 : l.stackTraces = false) (D : va_G) (tys : xK) (A : Nat → Prop) (M : Wm) (hT : tyOK tys) (x ou : Nat) (f : Nat → Int64) (s : AS) (z1_ z2_ z3_ : Int) (hz1 : -2147483648 ≤ z1_ ∧ z1_ < 2147483648) (hz2 : -2147483648 ≤ z2_ ∧ z2_ < 2147483648) (hz3 : -2147483648 ≤ z3_ ∧ z3_ < 2147483648) (hR : RC tys M x s) (hd : dj M (oU tys ou f)) : wT l y_La_place b_La_place 6 (some .int) hh_La_place { frames := 7, cells := 1, slots := 6, locals := 113 } D tys A [.ref x, .int (iI z1_), .int (iI z2_), .int (iI z3_), .ref ou] (mj M (oU tys ou f)) (qI D A (qW tys M ou [(xIA, 1), (xIS, 2)] (fun z M' => ((0 ≤ z1_ ∧ z1_ ≤ 30) ∧ (0 ≤ z2_ ∧ z2_ ≤ 100) ∧ (0 ≤ z3_ ∧ z3_ ≤ 100)) ∧ s 0 0 1 < 30 ∧ z = s 0 0 1 ∧ RC tys M' x (sPlace s z1_ z2_ z3_)) (fun E => (E = xIA ∧ ¬ ((0 ≤ z1_ ∧ z1_ ≤ 30) ∧ (0 ≤ z2_ ∧ z2_ ≤ 100) ∧ (0 ≤ z3_ ∧ z3_ ≤ 100))) ∨ (E = xIS ∧ ((0 ≤ z1_ ∧ z1_ ≤ 30) ∧ (0 ≤ z2_ ∧ z2_ ≤ 100) ∧ (0 ≤ z3_ ∧ z3_ ≤ 100)) ∧ 30 ≤ s 0 0 1)))) 1 6 := by
  obtain ⟨fs, hob⟩ := RC_ob hR
  refine wet_of (own := R_La) rfl (by decide +kernel) (Nat.le_of_ble_eq_true rfl) rfl ?_
  intro p e st m below meth c C hr hex hL
  refine g_aload C d_La_place_0 4 rfl ?_
  refine g_iconst C d_La_place_2 ?_
  refine g_aload_n C d_La_place_3 0 rfl ?_
  refine g_iload_n C d_La_place_4 1 rfl ?_
  refine g_iload_n C d_La_place_5 2 rfl ?_
  refine g_iload_n C d_La_place_6 3 rfl ?_
  refine g_xcall C hd (rest := [.int (iI 0), .ref ou]) [.int (iI z1_), .int (iI z2_), .int (iI z3_)] k_La_7 (xa_t 157 (by decide +kernel) rfl) (ct_Ct_place l hl0 D tys (Af A (oU tys ou f)) M hT x s z1_ z2_ z3_ hz1 hz2 hz3 hR) hob ⟨rfl, rfl, Nat.le_of_ble_eq_true rfl, Nat.le_of_ble_eq_true rfl⟩ rfl rfl (Nat.le_of_ble_eq_true rfl) d_La_place_7 ⟨Nat.le_of_ble_eq_true rfl, Nat.le_of_ble_eq_true rfl⟩ (fun z Mc hp hd2 => ?_) (fun E hE H1 locs1 ls ce q9 hW hS hls h1 h2 h3 => ?_)
  · refine g_i2lN C d_La_place_10 ?_
    refine g_lastO C hT.2.1 d_La_place_11 ?_
    refine g_goto C 23 d_La_place_12 (by decide) ?_
    refine g_iconst C d_La_place_23 ?_
    exact g_iret C hr d_La_place_24 ⟨Mc, _, rfl, dj_oU hd2, Or.inl ⟨rfl, z, updL_0, hp⟩⟩
  · have hE0 := hE
    rcases hE with ⟨rfl, -⟩ | ⟨rfl, -⟩
    · skip
      refine g_catch C [] ⟨0, 12, 15, 13⟩ [⟨0, 12, 19, 15⟩] hex (fun z hz => nomatch hz) rfl (by decide) cl_La_13 hL.1 hW hS hls h1 h2 h3 ?_
      refine g_astore (lv' := (5, .ref q9) :: [(0, .ref x), (1, .int (iI z1_)), (2, .int (iI z2_)), (3, .int (iI z3_)), (4, .ref ou)]) C d_La_place_15 (by decide) rfl ?_
      refine g_iconst C d_La_place_17 ?_
      exact g_iret C hr d_La_place_18 ⟨M, f, rfl, hd, Or.inr ⟨xIA, by simp, hE0, rfl⟩⟩
    · skip
      refine g_catch C [⟨0, 12, 15, 13⟩] ⟨0, 12, 19, 15⟩ [] hex (fun z hz => by rw [List.mem_singleton.mp hz]; exact ⟨by decide, xIA, cl_La_13, hL.2.2⟩) rfl (by decide) cl_La_15 hL.2.1 hW hS hls h1 h2 h3 ?_
      refine g_astore (lv' := (5, .ref q9) :: [(0, .ref x), (1, .int (iI z1_)), (2, .int (iI z2_)), (3, .int (iI z3_)), (4, .ref ou)]) C d_La_place_19 (by decide) rfl ?_
      refine g_iconst C d_La_place_21 ?_
      exact g_iret C hr d_La_place_22 ⟨M, f, rfl, hd, Or.inr ⟨xIS, by simp, hE0, rfl⟩⟩
abbrev hh_La_lift : List (Nat × Nat × Nat × Nat) := [(0, 18, 21, 13), (0, 18, 25, 15)]
theorem ct_La_lift (l : Launch) (hl0 : l.stackTraces = false) (D : va_G) (tys : xK) (A : Nat → Prop) (M : Wm) (hT : tyOK tys) (x ou : Nat) (f : Nat → Int64) (s : AS) (z1_ z2_ z3_ z4_ z5_ z6_ : Int) (hz1 : -2147483648 ≤ z1_ ∧ z1_ < 2147483648) (hz2 : -2147483648 ≤ z2_ ∧ z2_ < 2147483648) (hz3 : -2147483648 ≤ z3_ ∧ z3_ < 2147483648) (hz4 : -2147483648 ≤ z4_ ∧ z4_ < 2147483648) (hz5 : -2147483648 ≤ z5_ ∧ z5_ < 2147483648) (hz6 : -2147483648 ≤ z6_ ∧ z6_ < 2147483648) (hR : RC tys M x s) (hd : dj M (oU tys ou f)) : wT l y_La_lift b_La_lift 9 (some .int) hh_La_lift { frames := 7, cells := 1, slots := 6, locals := 116 } D tys A [.ref x, .int (iI z1_), .int (iI z2_), .int (iI z3_), .int (iI z4_), .int (iI z5_), .int (iI z6_), .ref ou] (mj M (oU tys ou f)) (qI D A (qW tys M ou [(xIA, 1), (xIS, 2)] (fun z M' => (((0 ≤ z1_ ∧ z1_ ≤ 100) ∧ (0 ≤ z2_ ∧ z2_ ≤ 100)) ∧ (0 ≤ z4_ ∧ z4_ ≤ 30) ∧ (0 ≤ z3_ ∧ z3_ ≤ z4_) ∧ (0 ≤ z5_ ∧ z5_ ≤ 100) ∧ (0 ≤ z6_ ∧ z6_ ≤ 100)) ∧ s 0 0 2 < 6 ∧ z = s 0 0 2 ∧ RC tys M' x (sLiftN s z1_ z2_ z3_ z4_ z5_ z6_)) (fun E => (E = xIA ∧ ¬ (((0 ≤ z1_ ∧ z1_ ≤ 100) ∧ (0 ≤ z2_ ∧ z2_ ≤ 100)) ∧ (0 ≤ z4_ ∧ z4_ ≤ 30) ∧ (0 ≤ z3_ ∧ z3_ ≤ z4_) ∧ (0 ≤ z5_ ∧ z5_ ≤ 100) ∧ (0 ≤ z6_ ∧ z6_ ≤ 100))) ∨ (E = xIS ∧ (((0 ≤ z1_ ∧ z1_ ≤ 100) ∧ (0 ≤ z2_ ∧ z2_ ≤ 100)) ∧ (0 ≤ z4_ ∧ z4_ ≤ 30) ∧ (0 ≤ z3_ ∧ z3_ ≤ z4_) ∧ (0 ≤ z5_ ∧ z5_ ≤ 100) ∧ (0 ≤ z6_ ∧ z6_ ≤ 100)) ∧ 6 ≤ s 0 0 2)))) 1 6 := by
  obtain ⟨fs, hob⟩ := RC_ob hR
  refine wet_of (own := R_La) rfl (by decide +kernel) (Nat.le_of_ble_eq_true rfl) rfl ?_
  intro p e st m below meth c C hr hex hL
  refine g_aload C d_La_lift_0 7 rfl ?_
  refine g_iconst C d_La_lift_2 ?_
  refine g_aload_n C d_La_lift_3 0 rfl ?_
  refine g_iload_n C d_La_lift_4 1 rfl ?_
  refine g_iload_n C d_La_lift_5 2 rfl ?_
  refine g_iload_n C d_La_lift_6 3 rfl ?_
  refine g_iload C d_La_lift_7 4 rfl ?_
  refine g_iload C d_La_lift_9 5 rfl ?_
  refine g_iload C d_La_lift_11 6 rfl ?_
  refine g_xcall C hd (rest := [.int (iI 0), .ref ou]) [.int (iI z1_), .int (iI z2_), .int (iI z3_), .int (iI z4_), .int (iI z5_), .int (iI z6_)] k_La_17 (xa_t 281 (by decide +kernel) rfl) (ct_Ct_lift l hl0 D tys (Af A (oU tys ou f)) M hT x s z1_ z2_ z3_ z4_ z5_ z6_ hz1 hz2 hz3 hz4 hz5 hz6 hR) hob ⟨rfl, rfl, Nat.le_of_ble_eq_true rfl, Nat.le_of_ble_eq_true rfl⟩ rfl rfl (Nat.le_of_ble_eq_true rfl) d_La_lift_13 ⟨Nat.le_of_ble_eq_true rfl, Nat.le_of_ble_eq_true rfl⟩ (fun z Mc hp hd2 => ?_) (fun E hE H1 locs1 ls ce q9 hW hS hls h1 h2 h3 => ?_)
  · refine g_i2lN C d_La_lift_16 ?_
    refine g_lastO C hT.2.1 d_La_lift_17 ?_
    refine g_goto C 29 d_La_lift_18 (by decide) ?_
    refine g_iconst C d_La_lift_29 ?_
    exact g_iret C hr d_La_lift_30 ⟨Mc, _, rfl, dj_oU hd2, Or.inl ⟨rfl, z, updL_0, hp⟩⟩
  · have hE0 := hE
    rcases hE with ⟨rfl, -⟩ | ⟨rfl, -⟩
    · skip
      refine g_catch C [] ⟨0, 18, 21, 13⟩ [⟨0, 18, 25, 15⟩] hex (fun z hz => nomatch hz) rfl (by decide) cl_La_13 hL.1 hW hS hls h1 h2 h3 ?_
      refine g_astore (lv' := (8, .ref q9) :: [(0, .ref x), (1, .int (iI z1_)), (2, .int (iI z2_)), (3, .int (iI z3_)), (4, .int (iI z4_)), (5, .int (iI z5_)), (6, .int (iI z6_)), (7, .ref ou)]) C d_La_lift_21 (by decide) rfl ?_
      refine g_iconst C d_La_lift_23 ?_
      exact g_iret C hr d_La_lift_24 ⟨M, f, rfl, hd, Or.inr ⟨xIA, by simp, hE0, rfl⟩⟩
    · skip
      refine g_catch C [⟨0, 18, 21, 13⟩] ⟨0, 18, 25, 15⟩ [] hex (fun z hz => by rw [List.mem_singleton.mp hz]; exact ⟨by decide, xIA, cl_La_13, hL.2.2⟩) rfl (by decide) cl_La_15 hL.2.1 hW hS hls h1 h2 h3 ?_
      refine g_astore (lv' := (8, .ref q9) :: [(0, .ref x), (1, .int (iI z1_)), (2, .int (iI z2_)), (3, .int (iI z3_)), (4, .int (iI z4_)), (5, .int (iI z5_)), (6, .int (iI z6_)), (7, .ref ou)]) C d_La_lift_25 (by decide) rfl ?_
      refine g_iconst C d_La_lift_27 ?_
      exact g_iret C hr d_La_lift_28 ⟨M, f, rfl, hd, Or.inr ⟨xIS, by simp, hE0, rfl⟩⟩
abbrev hh_La_part : List (Nat × Nat × Nat × Nat) := [(0, 18, 21, 13), (0, 18, 25, 15)]
theorem ct_La_part (l : Launch) (hl0 : l.stackTraces = false) (D : va_G) (tys : xK) (A : Nat → Prop) (M : Wm) (hT : tyOK tys) (x ou : Nat) (f : Nat → Int64) (s : AS) (z1_ z2_ z3_ z4_ z5_ z6_ : Int) (hz1 : -2147483648 ≤ z1_ ∧ z1_ < 2147483648) (hz2 : -2147483648 ≤ z2_ ∧ z2_ < 2147483648) (hz3 : -2147483648 ≤ z3_ ∧ z3_ < 2147483648) (hz4 : -2147483648 ≤ z4_ ∧ z4_ < 2147483648) (hz5 : -2147483648 ≤ z5_ ∧ z5_ < 2147483648) (hz6 : -2147483648 ≤ z6_ ∧ z6_ < 2147483648) (hR : RC tys M x s) (hd : dj M (oU tys ou f)) : wT l y_La_part b_La_part 9 (some .int) hh_La_part { frames := 7, cells := 1, slots := 11, locals := 117 } D tys A [.ref x, .int (iI z1_), .int (iI z2_), .int (iI z3_), .int (iI z4_), .int (iI z5_), .int (iI z6_), .ref ou] (mj M (oU tys ou f)) (qI D A (qW tys M ou [(xIA, 1), (xIS, 2)] (fun z M' => ((0 ≤ z1_ ∧ z1_ < s 0 0 1) ∧ (0 ≤ z2_ ∧ z2_ ≤ 7) ∧ (0 ≤ z3_ ∧ z3_ ≤ 4) ∧ (1 ≤ z4_ ∧ z4_ ≤ 400) ∧ (1 ≤ z5_ ∧ z5_ ≤ 10000) ∧ (1 ≤ z6_ ∧ z6_ ≤ 7200)) ∧ s 0 0 3 < 40 ∧ z = s 0 0 3 ∧ RC tys M' x (sPart s z1_ z2_ z3_ z4_ z5_ z6_)) (fun E => (E = xIA ∧ ¬ ((0 ≤ z1_ ∧ z1_ < s 0 0 1) ∧ (0 ≤ z2_ ∧ z2_ ≤ 7) ∧ (0 ≤ z3_ ∧ z3_ ≤ 4) ∧ (1 ≤ z4_ ∧ z4_ ≤ 400) ∧ (1 ≤ z5_ ∧ z5_ ≤ 10000) ∧ (1 ≤ z6_ ∧ z6_ ≤ 7200))) ∨ (E = xIS ∧ ((0 ≤ z1_ ∧ z1_ < s 0 0 1) ∧ (0 ≤ z2_ ∧ z2_ ≤ 7) ∧ (0 ≤ z3_ ∧ z3_ ≤ 4) ∧ (1 ≤ z4_ ∧ z4_ ≤ 400) ∧ (1 ≤ z5_ ∧ z5_ ≤ 10000) ∧ (1 ≤ z6_ ∧ z6_ ≤ 7200)) ∧ 40 ≤ s 0 0 3)))) 1 11 := by
  obtain ⟨fs, hob⟩ := RC_ob hR
  refine wet_of (own := R_La) rfl (by decide +kernel) (Nat.le_of_ble_eq_true rfl) rfl ?_
  intro p e st m below meth c C hr hex hL
  refine g_aload C d_La_part_0 7 rfl ?_
  refine g_iconst C d_La_part_2 ?_
  refine g_aload_n C d_La_part_3 0 rfl ?_
  refine g_iload_n C d_La_part_4 1 rfl ?_
  refine g_iload_n C d_La_part_5 2 rfl ?_
  refine g_iload_n C d_La_part_6 3 rfl ?_
  refine g_iload C d_La_part_7 4 rfl ?_
  refine g_iload C d_La_part_9 5 rfl ?_
  refine g_iload C d_La_part_11 6 rfl ?_
  refine g_xcall C hd (rest := [.int (iI 0), .ref ou]) [.int (iI z1_), .int (iI z2_), .int (iI z3_), .int (iI z4_), .int (iI z5_), .int (iI z6_)] k_La_21 (xa_t 320 (by decide +kernel) rfl) (ct_Ct_part l hl0 D tys (Af A (oU tys ou f)) M hT x s z1_ z2_ z3_ z4_ z5_ z6_ hz1 hz2 hz3 hz4 hz5 hz6 hR) hob ⟨rfl, rfl, Nat.le_of_ble_eq_true rfl, Nat.le_of_ble_eq_true rfl⟩ rfl rfl (Nat.le_of_ble_eq_true rfl) d_La_part_13 ⟨Nat.le_of_ble_eq_true rfl, Nat.le_of_ble_eq_true rfl⟩ (fun z Mc hp hd2 => ?_) (fun E hE H1 locs1 ls ce q9 hW hS hls h1 h2 h3 => ?_)
  · refine g_i2lN C d_La_part_16 ?_
    refine g_lastO C hT.2.1 d_La_part_17 ?_
    refine g_goto C 29 d_La_part_18 (by decide) ?_
    refine g_iconst C d_La_part_29 ?_
    exact g_iret C hr d_La_part_30 ⟨Mc, _, rfl, dj_oU hd2, Or.inl ⟨rfl, z, updL_0, hp⟩⟩
  · have hE0 := hE
    rcases hE with ⟨rfl, -⟩ | ⟨rfl, -⟩
    · skip
      refine g_catch C [] ⟨0, 18, 21, 13⟩ [⟨0, 18, 25, 15⟩] hex (fun z hz => nomatch hz) rfl (by decide) cl_La_13 hL.1 hW hS hls h1 h2 h3 ?_
      refine g_astore (lv' := (8, .ref q9) :: [(0, .ref x), (1, .int (iI z1_)), (2, .int (iI z2_)), (3, .int (iI z3_)), (4, .int (iI z4_)), (5, .int (iI z5_)), (6, .int (iI z6_)), (7, .ref ou)]) C d_La_part_21 (by decide) rfl ?_
      refine g_iconst C d_La_part_23 ?_
      exact g_iret C hr d_La_part_24 ⟨M, f, rfl, hd, Or.inr ⟨xIA, by simp, hE0, rfl⟩⟩
    · skip
      refine g_catch C [⟨0, 18, 21, 13⟩] ⟨0, 18, 25, 15⟩ [] hex (fun z hz => by rw [List.mem_singleton.mp hz]; exact ⟨by decide, xIA, cl_La_13, hL.2.2⟩) rfl (by decide) cl_La_15 hL.2.1 hW hS hls h1 h2 h3 ?_
      refine g_astore (lv' := (8, .ref q9) :: [(0, .ref x), (1, .int (iI z1_)), (2, .int (iI z2_)), (3, .int (iI z3_)), (4, .int (iI z4_)), (5, .int (iI z5_)), (6, .int (iI z6_)), (7, .ref ou)]) C d_La_part_25 (by decide) rfl ?_
      refine g_iconst C d_La_part_27 ?_
      exact g_iret C hr d_La_part_28 ⟨M, f, rfl, hd, Or.inr ⟨xIS, by simp, hE0, rfl⟩⟩
abbrev hh_La_person : List (Nat × Nat × Nat × Nat) := [(0, 12, 15, 13), (0, 12, 19, 15)]
theorem ct_La_person (l : Launch) (hl0 : l.stackTraces = false) (D : va_G) (tys : xK) (A : Nat → Prop) (M : Wm) (hT : tyOK tys) (x ou : Nat) (f : Nat → Int64) (s : AS) (z1_ z2_ z3_ : Int) (hz1 : -2147483648 ≤ z1_ ∧ z1_ < 2147483648) (hz2 : -2147483648 ≤ z2_ ∧ z2_ < 2147483648) (hz3 : -2147483648 ≤ z3_ ∧ z3_ < 2147483648) (hR : RC tys M x s) (hd : dj M (oU tys ou f)) : wT l y_La_person b_La_person 6 (some .int) hh_La_person { frames := 7, cells := 1, slots := 6, locals := 114 } D tys A [.ref x, .int (iI z1_), .int (iI z2_), .int (iI z3_), .ref ou] (mj M (oU tys ou f)) (qI D A (qW tys M ou [(xIA, 1), (xIS, 2)] (fun z M' => ((0 ≤ z1_ ∧ z1_ ≤ 255) ∧ (0 ≤ z2_ ∧ z2_ < s 0 0 1) ∧ (0 ≤ z3_ ∧ z3_ ≤ 100000)) ∧ s 0 0 4 < 8 ∧ z = s 0 0 4 ∧ RC tys M' x (sPerson s z1_ z2_ z3_)) (fun E => (E = xIA ∧ ¬ ((0 ≤ z1_ ∧ z1_ ≤ 255) ∧ (0 ≤ z2_ ∧ z2_ < s 0 0 1) ∧ (0 ≤ z3_ ∧ z3_ ≤ 100000))) ∨ (E = xIS ∧ ((0 ≤ z1_ ∧ z1_ ≤ 255) ∧ (0 ≤ z2_ ∧ z2_ < s 0 0 1) ∧ (0 ≤ z3_ ∧ z3_ ≤ 100000)) ∧ 8 ≤ s 0 0 4)))) 1 6 := by
  obtain ⟨fs, hob⟩ := RC_ob hR
  refine wet_of (own := R_La) rfl (by decide +kernel) (Nat.le_of_ble_eq_true rfl) rfl ?_
  intro p e st m below meth c C hr hex hL
  refine g_aload C d_La_person_0 4 rfl ?_
  refine g_iconst C d_La_person_2 ?_
  refine g_aload_n C d_La_person_3 0 rfl ?_
  refine g_iload_n C d_La_person_4 1 rfl ?_
  refine g_iload_n C d_La_person_5 2 rfl ?_
  refine g_iload_n C d_La_person_6 3 rfl ?_
  refine g_xcall C hd (rest := [.int (iI 0), .ref ou]) [.int (iI z1_), .int (iI z2_), .int (iI z3_)] k_La_24 (xa_t 389 (by decide +kernel) rfl) (ct_Ct_person l hl0 D tys (Af A (oU tys ou f)) M hT x s z1_ z2_ z3_ hz1 hz2 hz3 hR) hob ⟨rfl, rfl, Nat.le_of_ble_eq_true rfl, Nat.le_of_ble_eq_true rfl⟩ rfl rfl (Nat.le_of_ble_eq_true rfl) d_La_person_7 ⟨Nat.le_of_ble_eq_true rfl, Nat.le_of_ble_eq_true rfl⟩ (fun z Mc hp hd2 => ?_) (fun E hE H1 locs1 ls ce q9 hW hS hls h1 h2 h3 => ?_)
  · refine g_i2lN C d_La_person_10 ?_
    refine g_lastO C hT.2.1 d_La_person_11 ?_
    refine g_goto C 23 d_La_person_12 (by decide) ?_
    refine g_iconst C d_La_person_23 ?_
    exact g_iret C hr d_La_person_24 ⟨Mc, _, rfl, dj_oU hd2, Or.inl ⟨rfl, z, updL_0, hp⟩⟩
  · have hE0 := hE
    rcases hE with ⟨rfl, -⟩ | ⟨rfl, -⟩
    · skip
      refine g_catch C [] ⟨0, 12, 15, 13⟩ [⟨0, 12, 19, 15⟩] hex (fun z hz => nomatch hz) rfl (by decide) cl_La_13 hL.1 hW hS hls h1 h2 h3 ?_
      refine g_astore (lv' := (5, .ref q9) :: [(0, .ref x), (1, .int (iI z1_)), (2, .int (iI z2_)), (3, .int (iI z3_)), (4, .ref ou)]) C d_La_person_15 (by decide) rfl ?_
      refine g_iconst C d_La_person_17 ?_
      exact g_iret C hr d_La_person_18 ⟨M, f, rfl, hd, Or.inr ⟨xIA, by simp, hE0, rfl⟩⟩
    · skip
      refine g_catch C [⟨0, 12, 15, 13⟩] ⟨0, 12, 19, 15⟩ [] hex (fun z hz => by rw [List.mem_singleton.mp hz]; exact ⟨by decide, xIA, cl_La_13, hL.2.2⟩) rfl (by decide) cl_La_15 hL.2.1 hW hS hls h1 h2 h3 ?_
      refine g_astore (lv' := (5, .ref q9) :: [(0, .ref x), (1, .int (iI z1_)), (2, .int (iI z2_)), (3, .int (iI z3_)), (4, .ref ou)]) C d_La_person_19 (by decide) rfl ?_
      refine g_iconst C d_La_person_21 ?_
      exact g_iret C hr d_La_person_22 ⟨M, f, rfl, hd, Or.inr ⟨xIS, by simp, hE0, rfl⟩⟩
abbrev hh_La_used : List (Nat × Nat × Nat × Nat) := [(0, 12, 15, 13)]
theorem ct_La_used (l : Launch) (hl0 : l.stackTraces = false) (D : va_G) (tys : xK) (A : Nat → Prop) (M : Wm) (hT : tyOK tys) (x ou : Nat) (f : Nat → Int64) (s : AS) (z1_ z2_ z3_ : Int) (hz1 : -2147483648 ≤ z1_ ∧ z1_ < 2147483648) (hz2 : -2147483648 ≤ z2_ ∧ z2_ < 2147483648) (hz3 : -2147483648 ≤ z3_ ∧ z3_ < 2147483648) (hg7 : s 7 0 0 < 600) (hR : RC tys M x s) (hd : dj M (oU tys ou f)) : wT l y_La_used b_La_used 6 (some .int) hh_La_used { frames := 7, cells := 1, slots := 6, locals := 114 } D tys A [.ref x, .int (iI z1_), .int (iI z2_), .int (iI z3_), .ref ou] (mj M (oU tys ou f)) (qI D A (qW tys M ou [(xIA, 1)] (fun z M' => (((0 ≤ z1_ ∧ z1_ < s 0 0 3) ∧ (0 ≤ z2_ ∧ z2_ ≤ 100000) ∧ (1 ≤ z3_ ∧ z3_ ≤ 1000)) ∧ s 3 z1_.toNat 7 ≤ z2_) ∧ z = s 3 z1_.toNat 6 + z3_ ∧ RC tys M' x (sUse s z1_.toNat z2_ z3_)) (fun E => E = xIA ∧ ¬ (((0 ≤ z1_ ∧ z1_ < s 0 0 3) ∧ (0 ≤ z2_ ∧ z2_ ≤ 100000) ∧ (1 ≤ z3_ ∧ z3_ ≤ 1000)) ∧ s 3 z1_.toNat 7 ≤ z2_)))) 1 6 := by
  obtain ⟨fs, hob⟩ := RC_ob hR
  refine wet_of (own := R_La) rfl (by decide +kernel) (Nat.le_of_ble_eq_true rfl) rfl ?_
  intro p e st m below meth c C hr hex hL
  refine g_aload C d_La_used_0 4 rfl ?_
  refine g_iconst C d_La_used_2 ?_
  refine g_aload_n C d_La_used_3 0 rfl ?_
  refine g_iload_n C d_La_used_4 1 rfl ?_
  refine g_iload_n C d_La_used_5 2 rfl ?_
  refine g_iload_n C d_La_used_6 3 rfl ?_
  refine g_xcall C hd (rest := [.int (iI 0), .ref ou]) [.int (iI z1_), .int (iI z2_), .int (iI z3_)] k_La_27 (xa_t 421 (by decide +kernel) rfl) (ct_Ct_used l hl0 D tys (Af A (oU tys ou f)) M hT x s z1_ z2_ z3_ hz1 hz2 hz3 hg7 hR) hob ⟨rfl, rfl, Nat.le_of_ble_eq_true rfl, Nat.le_of_ble_eq_true rfl⟩ rfl rfl (Nat.le_of_ble_eq_true rfl) d_La_used_7 ⟨Nat.le_of_ble_eq_true rfl, Nat.le_of_ble_eq_true rfl⟩ (fun z Mc hp hd2 => ?_) (fun E hE H1 locs1 ls ce q9 hW hS hls h1 h2 h3 => ?_)
  · refine g_i2lN C d_La_used_10 ?_
    refine g_lastO C hT.2.1 d_La_used_11 ?_
    refine g_goto C 19 d_La_used_12 (by decide) ?_
    refine g_iconst C d_La_used_19 ?_
    exact g_iret C hr d_La_used_20 ⟨Mc, _, rfl, dj_oU hd2, Or.inl ⟨rfl, z, updL_0, hp⟩⟩
  · have hE0 := hE
    obtain ⟨rfl, -⟩ := hE
    refine g_catch C [] ⟨0, 12, 15, 13⟩ [] hex (fun z hz => nomatch hz) rfl (by decide) cl_La_13 hL.1 hW hS hls h1 h2 h3 ?_
    refine g_astore (lv' := (5, .ref q9) :: [(0, .ref x), (1, .int (iI z1_)), (2, .int (iI z2_)), (3, .int (iI z3_)), (4, .ref ou)]) C d_La_used_15 (by decide) rfl ?_
    refine g_iconst C d_La_used_17 ?_
    exact g_iret C hr d_La_used_18 ⟨M, f, rfl, hd, Or.inr ⟨xIA, by simp, hE0, rfl⟩⟩
abbrev hh_La_stock : List (Nat × Nat × Nat × Nat) := [(0, 10, 13, 13)]
theorem ct_La_stock (l : Launch) (hl0 : l.stackTraces = false) (D : va_G) (tys : xK) (A : Nat → Prop) (M : Wm) (hT : tyOK tys) (x ou : Nat) (f : Nat → Int64) (s : AS) (z1_ z2_ : Int) (hz1 : -2147483648 ≤ z1_ ∧ z1_ < 2147483648) (hz2 : -2147483648 ≤ z2_ ∧ z2_ < 2147483648) (hg7 : s 7 0 0 < 600) (hR : RC tys M x s) (hd : dj M (oU tys ou f)) : wT l y_La_stock b_La_stock 5 (some .int) hh_La_stock { frames := 7, cells := 1, slots := 6, locals := 112 } D tys A [.ref x, .int (iI z1_), .int (iI z2_), .ref ou] (mj M (oU tys ou f)) (qI D A (qW tys M ou [(xIA, 1)] (fun z M' => ((0 ≤ z1_ ∧ z1_ ≤ 4) ∧ (1 ≤ z2_ ∧ z2_ ≤ 1000)) ∧ z = s 5 0 z1_.toNat + z2_ ∧ RC tys M' x (sStk s z1_.toNat z2_)) (fun E => E = xIA ∧ ¬ ((0 ≤ z1_ ∧ z1_ ≤ 4) ∧ (1 ≤ z2_ ∧ z2_ ≤ 1000))))) 1 6 := by
  obtain ⟨fs, hob⟩ := RC_ob hR
  refine wet_of (own := R_La) rfl (by decide +kernel) (Nat.le_of_ble_eq_true rfl) rfl ?_
  intro p e st m below meth c C hr hex hL
  refine g_aload_n C d_La_stock_0 3 rfl ?_
  refine g_iconst C d_La_stock_1 ?_
  refine g_aload_n C d_La_stock_2 0 rfl ?_
  refine g_iload_n C d_La_stock_3 1 rfl ?_
  refine g_iload_n C d_La_stock_4 2 rfl ?_
  refine g_xcall C hd (rest := [.int (iI 0), .ref ou]) [.int (iI z1_), .int (iI z2_)] k_La_30 (xa_t 441 (by decide +kernel) rfl) (ct_Ct_stock l hl0 D tys (Af A (oU tys ou f)) M hT x s z1_ z2_ hz1 hz2 hg7 hR) hob ⟨rfl, rfl, Nat.le_of_ble_eq_true rfl, Nat.le_of_ble_eq_true rfl⟩ rfl rfl (Nat.le_of_ble_eq_true rfl) d_La_stock_5 ⟨Nat.le_of_ble_eq_true rfl, Nat.le_of_ble_eq_true rfl⟩ (fun z Mc hp hd2 => ?_) (fun E hE H1 locs1 ls ce q9 hW hS hls h1 h2 h3 => ?_)
  · refine g_i2lN C d_La_stock_8 ?_
    refine g_lastO C hT.2.1 d_La_stock_9 ?_
    refine g_goto C 17 d_La_stock_10 (by decide) ?_
    refine g_iconst C d_La_stock_17 ?_
    exact g_iret C hr d_La_stock_18 ⟨Mc, _, rfl, dj_oU hd2, Or.inl ⟨rfl, z, updL_0, hp⟩⟩
  · have hE0 := hE
    obtain ⟨rfl, -⟩ := hE
    refine g_catch C [] ⟨0, 10, 13, 13⟩ [] hex (fun z hz => nomatch hz) rfl (by decide) cl_La_13 hL.1 hW hS hls h1 h2 h3 ?_
    refine g_astore (lv' := (4, .ref q9) :: [(0, .ref x), (1, .int (iI z1_)), (2, .int (iI z2_)), (3, .ref ou)]) C d_La_stock_13 (by decide) rfl ?_
    refine g_iconst C d_La_stock_15 ?_
    exact g_iret C hr d_La_stock_16 ⟨M, f, rfl, hd, Or.inr ⟨xIA, by simp, hE0, rfl⟩⟩
abbrev hh_La_walk : List (Nat × Nat × Nat × Nat) := [(0, 10, 13, 13)]
theorem ct_La_walk (l : Launch) (hl0 : l.stackTraces = false) (D : va_G) (tys : xK) (A : Nat → Prop) (M : Wm) (hT : tyOK tys) (x ou : Nat) (f : Nat → Int64) (s : AS) (z1_ z2_ : Int) (hz1 : -2147483648 ≤ z1_ ∧ z1_ < 2147483648) (hz2 : -2147483648 ≤ z2_ ∧ z2_ < 2147483648) (hR : RC tys M x s) (hd : dj M (oU tys ou f)) : wT l y_La_walk b_La_walk 5 (some .int) hh_La_walk { frames := 7, cells := 1, slots := 6, locals := 113 } D tys A [.ref x, .int (iI z1_), .int (iI z2_), .ref ou] (mj M (oU tys ou f)) (qI D A (qW tys M ou [(xIA, 1)] (fun z M' => ((0 ≤ z1_ ∧ z1_ < s 0 0 1) ∧ (0 ≤ z2_ ∧ z2_ < s 0 0 1)) ∧ z = sWay (s 0 0 2).toNat (s 2) (s 1 z1_.toNat) (s 1 z2_.toNat) ∧ M' = M) (fun E => E = xIA ∧ ¬ ((0 ≤ z1_ ∧ z1_ < s 0 0 1) ∧ (0 ≤ z2_ ∧ z2_ < s 0 0 1))))) 1 6 := by
  obtain ⟨fs, hob⟩ := RC_ob hR
  refine wet_of (own := R_La) rfl (by decide +kernel) (Nat.le_of_ble_eq_true rfl) rfl ?_
  intro p e st m below meth c C hr hex hL
  refine g_aload_n C d_La_walk_0 3 rfl ?_
  refine g_iconst C d_La_walk_1 ?_
  refine g_aload_n C d_La_walk_2 0 rfl ?_
  refine g_iload_n C d_La_walk_3 1 rfl ?_
  refine g_iload_n C d_La_walk_4 2 rfl ?_
  refine g_xcall C hd (rest := [.int (iI 0), .ref ou]) [.int (iI z1_), .int (iI z2_)] k_La_34 (xa_t 449 (by decide +kernel) rfl) (ct_Ct_walk l hl0 D tys (Af A (oU tys ou f)) M hT x s z1_ z2_ hz1 hz2 hR) hob ⟨rfl, rfl, Nat.le_of_ble_eq_true rfl, Nat.le_of_ble_eq_true rfl⟩ rfl rfl (Nat.le_of_ble_eq_true rfl) d_La_walk_5 ⟨Nat.le_of_ble_eq_true rfl, Nat.le_of_ble_eq_true rfl⟩ (fun z Mc hp hd2 => ?_) (fun E hE H1 locs1 ls ce q9 hW hS hls h1 h2 h3 => ?_)
  · refine g_i2lN C d_La_walk_8 ?_
    refine g_lastO C hT.2.1 d_La_walk_9 ?_
    refine g_goto C 17 d_La_walk_10 (by decide) ?_
    refine g_iconst C d_La_walk_17 ?_
    exact g_iret C hr d_La_walk_18 ⟨Mc, _, rfl, dj_oU hd2, Or.inl ⟨rfl, z, updL_0, hp⟩⟩
  · have hE0 := hE
    obtain ⟨rfl, -⟩ := hE
    refine g_catch C [] ⟨0, 10, 13, 13⟩ [] hex (fun z hz => nomatch hz) rfl (by decide) cl_La_13 hL.1 hW hS hls h1 h2 h3 ?_
    refine g_astore (lv' := (4, .ref q9) :: [(0, .ref x), (1, .int (iI z1_)), (2, .int (iI z2_)), (3, .ref ou)]) C d_La_walk_13 (by decide) rfl ?_
    refine g_iconst C d_La_walk_15 ?_
    exact g_iret C hr d_La_walk_16 ⟨M, f, rfl, hd, Or.inr ⟨xIA, by simp, hE0, rfl⟩⟩
abbrev hh_La_tour : List (Nat × Nat × Nat × Nat) := [(0, 10, 13, 13)]
theorem ct_La_tour (l : Launch) (hl0 : l.stackTraces = false) (D : va_G) (tys : xK) (A : Nat → Prop) (M : Wm) (hT : tyOK tys) (x ou : Nat) (f : Nat → Int64) (s : AS) (z1_ z2_ : Int) (hz1 : -2147483648 ≤ z1_ ∧ z1_ < 2147483648) (hz2 : -2147483648 ≤ z2_ ∧ z2_ < 2147483648) (hR : RC tys M x s) (hd : dj M (oU tys ou f)) : wT l y_La_tour b_La_tour 5 (some .int) hh_La_tour { frames := 7, cells := 1, slots := 6, locals := 162 } D tys A [.ref x, .int (iI z1_), .int (iI z2_), .ref ou] (mj M (oU tys ou f)) (qI D A (qW tys M ou [(xIA, 1)] (fun z M' => ((0 ≤ z1_ ∧ z1_ < s 0 0 4) ∧ (0 ≤ z2_ ∧ z2_ ≤ 100000)) ∧ ∃ s' : AS, Tr s z1_.toNat z2_ s' ∧ z = s' 0 0 7 ∧ RC tys M' x s') (fun E => E = xIA ∧ ¬ ((0 ≤ z1_ ∧ z1_ < s 0 0 4) ∧ (0 ≤ z2_ ∧ z2_ ≤ 100000))))) 1 6 := by
  obtain ⟨fs, hob⟩ := RC_ob hR
  refine wet_of (own := R_La) rfl (by decide +kernel) (Nat.le_of_ble_eq_true rfl) rfl ?_
  intro p e st m below meth c C hr hex hL
  refine g_aload_n C d_La_tour_0 3 rfl ?_
  refine g_iconst C d_La_tour_1 ?_
  refine g_aload_n C d_La_tour_2 0 rfl ?_
  refine g_iload_n C d_La_tour_3 1 rfl ?_
  refine g_iload_n C d_La_tour_4 2 rfl ?_
  refine g_xcall C hd (rest := [.int (iI 0), .ref ou]) [.int (iI z1_), .int (iI z2_)] k_La_37 (xa_t 480 (by decide +kernel) rfl) (ct_Ct_tour l hl0 D tys (Af A (oU tys ou f)) M hT x s z1_ z2_ hz1 hz2 hR) hob ⟨rfl, rfl, Nat.le_of_ble_eq_true rfl, Nat.le_of_ble_eq_true rfl⟩ rfl rfl (Nat.le_of_ble_eq_true rfl) d_La_tour_5 ⟨Nat.le_of_ble_eq_true rfl, Nat.le_of_ble_eq_true rfl⟩ (fun z Mc hp hd2 => ?_) (fun E hE H1 locs1 ls ce q9 hW hS hls h1 h2 h3 => ?_)
  · refine g_i2lN C d_La_tour_8 ?_
    refine g_lastO C hT.2.1 d_La_tour_9 ?_
    refine g_goto C 17 d_La_tour_10 (by decide) ?_
    refine g_iconst C d_La_tour_17 ?_
    exact g_iret C hr d_La_tour_18 ⟨Mc, _, rfl, dj_oU hd2, Or.inl ⟨rfl, z, updL_0, hp⟩⟩
  · have hE0 := hE
    obtain ⟨rfl, -⟩ := hE
    refine g_catch C [] ⟨0, 10, 13, 13⟩ [] hex (fun z hz => nomatch hz) rfl (by decide) cl_La_13 hL.1 hW hS hls h1 h2 h3 ?_
    refine g_astore (lv' := (4, .ref q9) :: [(0, .ref x), (1, .int (iI z1_)), (2, .int (iI z2_)), (3, .ref ou)]) C d_La_tour_13 (by decide) rfl ?_
    refine g_iconst C d_La_tour_15 ?_
    exact g_iret C hr d_La_tour_16 ⟨M, f, rfl, hd, Or.inr ⟨xIA, by simp, hE0, rfl⟩⟩
abbrev hh_La_stop : List (Nat × Nat × Nat × Nat) := [(0, 9, 12, 13)]
theorem ct_La_stop (l : Launch) (hl0 : l.stackTraces = false) (D : va_G) (tys : xK) (A : Nat → Prop) (M : Wm) (hT : tyOK tys) (x ou : Nat) (f : Nat → Int64) (s : AS) (z1_ : Int) (hz1 : -2147483648 ≤ z1_ ∧ z1_ < 2147483648) (hR : RC tys M x s) (hd : dj M (oU tys ou f)) : wT l y_La_stop b_La_stop 4 (some .int) hh_La_stop { frames := 7, cells := 1, slots := 6, locals := 111 } D tys A [.ref x, .int (iI z1_), .ref ou] (mj M (oU tys ou f)) (qI D A (qW tys M ou [(xIA, 1)] (fun z M' => (0 ≤ z1_ ∧ z1_ < s 0 0 7) ∧ z = s 6 0 z1_.toNat ∧ M' = M) (fun E => E = xIA ∧ ¬ (0 ≤ z1_ ∧ z1_ < s 0 0 7)))) 1 6 := by
  obtain ⟨fs, hob⟩ := RC_ob hR
  refine wet_of (own := R_La) rfl (by decide +kernel) (Nat.le_of_ble_eq_true rfl) rfl ?_
  intro p e st m below meth c C hr hex hL
  refine g_aload_n C d_La_stop_0 2 rfl ?_
  refine g_iconst C d_La_stop_1 ?_
  refine g_aload_n C d_La_stop_2 0 rfl ?_
  refine g_iload_n C d_La_stop_3 1 rfl ?_
  refine g_xcall C hd (rest := [.int (iI 0), .ref ou]) [.int (iI z1_)] k_La_40 (xa_t 570 (by decide +kernel) rfl) (ct_Ct_stop l hl0 D tys (Af A (oU tys ou f)) M hT x s z1_ hz1 hR) hob ⟨rfl, rfl, Nat.le_of_ble_eq_true rfl, Nat.le_of_ble_eq_true rfl⟩ rfl rfl (Nat.le_of_ble_eq_true rfl) d_La_stop_4 ⟨Nat.le_of_ble_eq_true rfl, Nat.le_of_ble_eq_true rfl⟩ (fun z Mc hp hd2 => ?_) (fun E hE H1 locs1 ls ce q9 hW hS hls h1 h2 h3 => ?_)
  · refine g_i2lN C d_La_stop_7 ?_
    refine g_lastO C hT.2.1 d_La_stop_8 ?_
    refine g_goto C 15 d_La_stop_9 (by decide) ?_
    refine g_iconst C d_La_stop_15 ?_
    exact g_iret C hr d_La_stop_16 ⟨Mc, _, rfl, dj_oU hd2, Or.inl ⟨rfl, z, updL_0, hp⟩⟩
  · have hE0 := hE
    obtain ⟨rfl, -⟩ := hE
    refine g_catch C [] ⟨0, 9, 12, 13⟩ [] hex (fun z hz => nomatch hz) rfl (by decide) cl_La_13 hL.1 hW hS hls h1 h2 h3 ?_
    refine g_astore_n (lv' := (3, .ref q9) :: [(0, .ref x), (1, .int (iI z1_)), (2, .ref ou)]) C d_La_stop_12 (by decide) rfl ?_
    refine g_iconst C d_La_stop_13 ?_
    exact g_iret C hr d_La_stop_14 ⟨M, f, rfl, hd, Or.inr ⟨xIA, by simp, hE0, rfl⟩⟩
abbrev hh_La_told : List (Nat × Nat × Nat × Nat) := [(0, 9, 12, 13)]
theorem ct_La_told (l : Launch) (hl0 : l.stackTraces = false) (D : va_G) (tys : xK) (A : Nat → Prop) (M : Wm) (hT : tyOK tys) (x ou : Nat) (f : Nat → Int64) (s : AS) (z1_ : Int) (hz1 : -2147483648 ≤ z1_ ∧ z1_ < 2147483648) (hR : RC tys M x s) (hd : dj M (oU tys ou f)) : wT l y_La_told b_La_told 4 (some .int) hh_La_told { frames := 7, cells := 1, slots := 6, locals := 111 } D tys A [.ref x, .int (iI z1_), .ref ou] (mj M (oU tys ou f)) (qI D A (qW tys M ou [(xIA, 1)] (fun z M' => (0 ≤ z1_ ∧ z1_ ≤ 4) ∧ ((z1_ = 0 ∧ z = s 0 0 7) ∨ (z1_ = 1 ∧ z = s 0 0 9) ∨ (z1_ = 2 ∧ z = s 0 0 10) ∨ (z1_ = 3 ∧ z = s 0 0 8) ∨ (z1_ = 4 ∧ z = s 0 0 5)) ∧ M' = M) (fun E => E = xIA ∧ ¬ (0 ≤ z1_ ∧ z1_ ≤ 4)))) 1 6 := by
  obtain ⟨fs, hob⟩ := RC_ob hR
  refine wet_of (own := R_La) rfl (by decide +kernel) (Nat.le_of_ble_eq_true rfl) rfl ?_
  intro p e st m below meth c C hr hex hL
  refine g_aload_n C d_La_told_0 2 rfl ?_
  refine g_iconst C d_La_told_1 ?_
  refine g_aload_n C d_La_told_2 0 rfl ?_
  refine g_iload_n C d_La_told_3 1 rfl ?_
  refine g_xcall C hd (rest := [.int (iI 0), .ref ou]) [.int (iI z1_)] k_La_44 (xa_t 578 (by decide +kernel) rfl) (ct_Ct_told l hl0 D tys (Af A (oU tys ou f)) M hT x s z1_ hz1 hR) hob ⟨rfl, rfl, Nat.le_of_ble_eq_true rfl, Nat.le_of_ble_eq_true rfl⟩ rfl rfl (Nat.le_of_ble_eq_true rfl) d_La_told_4 ⟨Nat.le_of_ble_eq_true rfl, Nat.le_of_ble_eq_true rfl⟩ (fun z Mc hp hd2 => ?_) (fun E hE H1 locs1 ls ce q9 hW hS hls h1 h2 h3 => ?_)
  · refine g_i2lN C d_La_told_7 ?_
    refine g_lastO C hT.2.1 d_La_told_8 ?_
    refine g_goto C 15 d_La_told_9 (by decide) ?_
    refine g_iconst C d_La_told_15 ?_
    exact g_iret C hr d_La_told_16 ⟨Mc, _, rfl, dj_oU hd2, Or.inl ⟨rfl, z, updL_0, hp⟩⟩
  · have hE0 := hE
    obtain ⟨rfl, -⟩ := hE
    refine g_catch C [] ⟨0, 9, 12, 13⟩ [] hex (fun z hz => nomatch hz) rfl (by decide) cl_La_13 hL.1 hW hS hls h1 h2 h3 ?_
    refine g_astore_n (lv' := (3, .ref q9) :: [(0, .ref x), (1, .int (iI z1_)), (2, .ref ou)]) C d_La_told_12 (by decide) rfl ?_
    refine g_iconst C d_La_told_13 ?_
    exact g_iret C hr d_La_told_14 ⟨M, f, rfl, hd, Or.inr ⟨xIA, by simp, hE0, rfl⟩⟩
abbrev hh_La_put : List (Nat × Nat × Nat × Nat) := [(0, 9, 12, 13), (0, 9, 15, 15)]
theorem ct_La_put (l : Launch) (hl0 : l.stackTraces = false) (D : va_G) (tys : xK) (A : Nat → Prop) (M : Wm) (hT : tyOK tys) (x ou : Nat) (f : Nat → Int64) (s : AS) (z1_ : Int) (hz1 : -2147483648 ≤ z1_ ∧ z1_ < 2147483648) (hR : RC tys M x s) (hd : dj M (oU tys ou f)) : wT l y_La_put b_La_put 4 (some .int) hh_La_put { frames := 7, cells := 1, slots := 6, locals := 166 } D tys A [.ref x, .int (iI z1_), .ref ou] (mj M (oU tys ou f)) (qI D A (qW tys M ou [(xIA, 1), (xIS, 2)] (fun z M' => (0 ≤ z1_ ∧ z1_ < s 0 0 3) ∧ (¬ s 0 0 5 = -1 ∧ sBit (s 4 (s 0 0 5).toNat 0) (s 3 z1_.toNat 0) = 1 ∧ s 0 0 7 < 20 ∧ (∀ k, k < (s 0 0 7).toNat → ¬ s 6 0 k = z1_)) ∧ (((sGp s z1_.toNat).1 = -1 ∧ z = -2 ∧ M' = M) ∨ (¬ (sGp s z1_.toNat).1 = -1 ∧ z = (sGp s z1_.toNat).2 ∧ RC tys M' x (sPut s z1_.toNat (sGp s z1_.toNat).1.toNat (sGp s z1_.toNat).2)))) (fun E => (E = xIA ∧ ¬ (0 ≤ z1_ ∧ z1_ < s 0 0 3)) ∨ (E = xIS ∧ (0 ≤ z1_ ∧ z1_ < s 0 0 3) ∧ ¬ (¬ s 0 0 5 = -1 ∧ sBit (s 4 (s 0 0 5).toNat 0) (s 3 z1_.toNat 0) = 1 ∧ s 0 0 7 < 20 ∧ (∀ k, k < (s 0 0 7).toNat → ¬ s 6 0 k = z1_)))))) 1 6 := by
  obtain ⟨fs, hob⟩ := RC_ob hR
  refine wet_of (own := R_La) rfl (by decide +kernel) (Nat.le_of_ble_eq_true rfl) rfl ?_
  intro p e st m below meth c C hr hex hL
  refine g_aload_n C d_La_put_0 2 rfl ?_
  refine g_iconst C d_La_put_1 ?_
  refine g_aload_n C d_La_put_2 0 rfl ?_
  refine g_iload_n C d_La_put_3 1 rfl ?_
  refine g_xcall C hd (rest := [.int (iI 0), .ref ou]) [.int (iI z1_)] k_La_47 (xa_t 586 (by decide +kernel) rfl) (ct_Ct_put l hl0 D tys (Af A (oU tys ou f)) M hT x s z1_ hz1 hR) hob ⟨rfl, rfl, Nat.le_of_ble_eq_true rfl, Nat.le_of_ble_eq_true rfl⟩ rfl rfl (Nat.le_of_ble_eq_true rfl) d_La_put_4 ⟨Nat.le_of_ble_eq_true rfl, Nat.le_of_ble_eq_true rfl⟩ (fun z Mc hp hd2 => ?_) (fun E hE H1 locs1 ls ce q9 hW hS hls h1 h2 h3 => ?_)
  · refine g_i2lN C d_La_put_7 ?_
    refine g_lastO C hT.2.1 d_La_put_8 ?_
    refine g_goto C 18 d_La_put_9 (by decide) ?_
    refine g_iconst C d_La_put_18 ?_
    exact g_iret C hr d_La_put_19 ⟨Mc, _, rfl, dj_oU hd2, Or.inl ⟨rfl, z, updL_0, hp⟩⟩
  · have hE0 := hE
    rcases hE with ⟨rfl, -⟩ | ⟨rfl, -⟩
    · skip
      refine g_catch C [] ⟨0, 9, 12, 13⟩ [⟨0, 9, 15, 15⟩] hex (fun z hz => nomatch hz) rfl (by decide) cl_La_13 hL.1 hW hS hls h1 h2 h3 ?_
      refine g_astore_n (lv' := (3, .ref q9) :: [(0, .ref x), (1, .int (iI z1_)), (2, .ref ou)]) C d_La_put_12 (by decide) rfl ?_
      refine g_iconst C d_La_put_13 ?_
      exact g_iret C hr d_La_put_14 ⟨M, f, rfl, hd, Or.inr ⟨xIA, by simp, hE0, rfl⟩⟩
    · skip
      refine g_catch C [⟨0, 9, 12, 13⟩] ⟨0, 9, 15, 15⟩ [] hex (fun z hz => by rw [List.mem_singleton.mp hz]; exact ⟨by decide, xIA, cl_La_13, hL.2.2⟩) rfl (by decide) cl_La_15 hL.2.1 hW hS hls h1 h2 h3 ?_
      refine g_astore_n (lv' := (3, .ref q9) :: [(0, .ref x), (1, .int (iI z1_)), (2, .ref ou)]) C d_La_put_15 (by decide) rfl ?_
      refine g_iconst C d_La_put_16 ?_
      exact g_iret C hr d_La_put_17 ⟨M, f, rfl, hd, Or.inr ⟨xIS, by simp, hE0, rfl⟩⟩
abbrev hh_La_done : List (Nat × Nat × Nat × Nat) := [(0, 8, 11, 15)]
theorem ct_La_done (l : Launch) (hl0 : l.stackTraces = false) (D : va_G) (tys : xK) (A : Nat → Prop) (M : Wm) (hT : tyOK tys) (x ou : Nat) (f : Nat → Int64) (s : AS) (hR : RC tys M x s) (hd : dj M (oU tys ou f)) : wT l y_La_done b_La_done 3 (some .int) hh_La_done { frames := 7, cells := 1, slots := 6, locals := 111 } D tys A [.ref x, .ref ou] (mj M (oU tys ou f)) (qI D A (qW tys M ou [(xIS, 1)] (fun z M' => s 0 0 8 < s 0 0 7 ∧ ((s 5 0 (s 3 (s 6 0 (s 0 0 8).toNat).toNat 1).toNat ≤ 0 ∧ z = -2 ∧ M' = M) ∨ (0 < s 5 0 (s 3 (s 6 0 (s 0 0 8).toNat).toNat 1).toNat ∧ z = s 6 0 (s 0 0 8).toNat ∧ RC tys M' x (sDon s (s 6 0 (s 0 0 8).toNat).toNat)))) (fun E => E = xIS ∧ ¬ s 0 0 8 < s 0 0 7))) 1 6 := by
  obtain ⟨fs, hob⟩ := RC_ob hR
  refine wet_of (own := R_La) rfl (by decide +kernel) (Nat.le_of_ble_eq_true rfl) rfl ?_
  intro p e st m below meth c C hr hex hL
  refine g_aload_n C d_La_done_0 1 rfl ?_
  refine g_iconst C d_La_done_1 ?_
  refine g_aload_n C d_La_done_2 0 rfl ?_
  refine g_xcall C hd (rest := [.int (iI 0), .ref ou]) [] k_La_50 (xa_t 623 (by decide +kernel) rfl) (ct_Ct_done l hl0 D tys (Af A (oU tys ou f)) M hT x s  hR) hob ⟨rfl, rfl, Nat.le_of_ble_eq_true rfl, Nat.le_of_ble_eq_true rfl⟩ rfl rfl (Nat.le_of_ble_eq_true rfl) d_La_done_3 ⟨Nat.le_of_ble_eq_true rfl, Nat.le_of_ble_eq_true rfl⟩ (fun z Mc hp hd2 => ?_) (fun E hE H1 locs1 ls ce q9 hW hS hls h1 h2 h3 => ?_)
  · refine g_i2lN C d_La_done_6 ?_
    refine g_lastO C hT.2.1 d_La_done_7 ?_
    refine g_goto C 14 d_La_done_8 (by decide) ?_
    refine g_iconst C d_La_done_14 ?_
    exact g_iret C hr d_La_done_15 ⟨Mc, _, rfl, dj_oU hd2, Or.inl ⟨rfl, z, updL_0, hp⟩⟩
  · have hE0 := hE
    obtain ⟨rfl, -⟩ := hE
    refine g_catch C [] ⟨0, 8, 11, 15⟩ [] hex (fun z hz => nomatch hz) rfl (by decide) cl_La_15 hL.2.1 hW hS hls h1 h2 h3 ?_
    refine g_astore_n (lv' := (2, .ref q9) :: [(0, .ref x), (1, .ref ou)]) C d_La_done_11 (by decide) rfl ?_
    refine g_iconst C d_La_done_12 ?_
    exact g_iret C hr d_La_done_13 ⟨M, f, rfl, hd, Or.inr ⟨xIS, by simp, hE0, rfl⟩⟩
abbrev hh_La_due : List (Nat × Nat × Nat × Nat) := [(0, 9, 12, 13)]
theorem ct_La_due (l : Launch) (hl0 : l.stackTraces = false) (D : va_G) (tys : xK) (A : Nat → Prop) (M : Wm) (hT : tyOK tys) (x ou : Nat) (f : Nat → Int64) (s : AS) (z1_ : Int) (hz1 : -2147483648 ≤ z1_ ∧ z1_ < 2147483648) (hR : RC tys M x s) (hd : dj M (oU tys ou f)) : wT l y_La_due b_La_due 4 (some .int) hh_La_due { frames := 7, cells := 1, slots := 6, locals := 111 } D tys A [.ref x, .int (iI z1_), .ref ou] (mj M (oU tys ou f)) (qI D A (qW tys M ou [(xIA, 1)] (fun z M' => (0 ≤ z1_ ∧ z1_ < s 0 0 3) ∧ z = sDue (s 3 z1_.toNat) ∧ M' = M) (fun E => E = xIA ∧ ¬ (0 ≤ z1_ ∧ z1_ < s 0 0 3)))) 1 6 := by
  obtain ⟨fs, hob⟩ := RC_ob hR
  refine wet_of (own := R_La) rfl (by decide +kernel) (Nat.le_of_ble_eq_true rfl) rfl ?_
  intro p e st m below meth c C hr hex hL
  refine g_aload_n C d_La_due_0 2 rfl ?_
  refine g_iconst C d_La_due_1 ?_
  refine g_aload_n C d_La_due_2 0 rfl ?_
  refine g_iload_n C d_La_due_3 1 rfl ?_
  refine g_xcall C hd (rest := [.int (iI 0), .ref ou]) [.int (iI z1_)] k_La_54 (xa_t 635 (by decide +kernel) rfl) (ct_Ct_due l hl0 D tys (Af A (oU tys ou f)) M hT x s z1_ hz1 hR) hob ⟨rfl, rfl, Nat.le_of_ble_eq_true rfl, Nat.le_of_ble_eq_true rfl⟩ rfl rfl (Nat.le_of_ble_eq_true rfl) d_La_due_4 ⟨Nat.le_of_ble_eq_true rfl, Nat.le_of_ble_eq_true rfl⟩ (fun z Mc hp hd2 => ?_) (fun E hE H1 locs1 ls ce q9 hW hS hls h1 h2 h3 => ?_)
  · refine g_i2lN C d_La_due_7 ?_
    refine g_lastO C hT.2.1 d_La_due_8 ?_
    refine g_goto C 15 d_La_due_9 (by decide) ?_
    refine g_iconst C d_La_due_15 ?_
    exact g_iret C hr d_La_due_16 ⟨Mc, _, rfl, dj_oU hd2, Or.inl ⟨rfl, z, updL_0, hp⟩⟩
  · have hE0 := hE
    obtain ⟨rfl, -⟩ := hE
    refine g_catch C [] ⟨0, 9, 12, 13⟩ [] hex (fun z hz => nomatch hz) rfl (by decide) cl_La_13 hL.1 hW hS hls h1 h2 h3 ?_
    refine g_astore_n (lv' := (3, .ref q9) :: [(0, .ref x), (1, .int (iI z1_)), (2, .ref ou)]) C d_La_due_12 (by decide) rfl ?_
    refine g_iconst C d_La_due_13 ?_
    exact g_iret C hr d_La_due_14 ⟨M, f, rfl, hd, Or.inr ⟨xIA, by simp, hE0, rfl⟩⟩
abbrev hh_La_late : List (Nat × Nat × Nat × Nat) := [(0, 9, 12, 13)]
theorem ct_La_late (l : Launch) (hl0 : l.stackTraces = false) (D : va_G) (tys : xK) (A : Nat → Prop) (M : Wm) (hT : tyOK tys) (x ou : Nat) (f : Nat → Int64) (s : AS) (z1_ : Int) (hz1 : -2147483648 ≤ z1_ ∧ z1_ < 2147483648) (hR : RC tys M x s) (hd : dj M (oU tys ou f)) : wT l y_La_late b_La_late 4 (some .int) hh_La_late { frames := 7, cells := 1, slots := 6, locals := 111 } D tys A [.ref x, .int (iI z1_), .ref ou] (mj M (oU tys ou f)) (qI D A (qW tys M ou [(xIA, 1)] (fun z M' => (0 ≤ z1_) ∧ ((s 0 0 3 ≤ z1_ ∧ z = -1) ∨ (z1_ < s 0 0 3 ∧ (0 ≤ z ∧ z < s 0 0 3) ∧ bfc (fun p => sDue (s 3 p)) (s 0 0 3).toNat z.toNat = z1_.toNat)) ∧ RC tys M' x s) (fun E => E = xIA ∧ ¬ (0 ≤ z1_)))) 1 6 := by
  obtain ⟨fs, hob⟩ := RC_ob hR
  refine wet_of (own := R_La) rfl (by decide +kernel) (Nat.le_of_ble_eq_true rfl) rfl ?_
  intro p e st m below meth c C hr hex hL
  refine g_aload_n C d_La_late_0 2 rfl ?_
  refine g_iconst C d_La_late_1 ?_
  refine g_aload_n C d_La_late_2 0 rfl ?_
  refine g_iload_n C d_La_late_3 1 rfl ?_
  refine g_xcall C hd (rest := [.int (iI 0), .ref ou]) [.int (iI z1_)] k_La_57 (xa_t 642 (by decide +kernel) rfl) (ct_Ct_late l hl0 D tys (Af A (oU tys ou f)) M hT x s z1_ hz1 hR) hob ⟨rfl, rfl, Nat.le_of_ble_eq_true rfl, Nat.le_of_ble_eq_true rfl⟩ rfl rfl (Nat.le_of_ble_eq_true rfl) d_La_late_4 ⟨Nat.le_of_ble_eq_true rfl, Nat.le_of_ble_eq_true rfl⟩ (fun z Mc hp hd2 => ?_) (fun E hE H1 locs1 ls ce q9 hW hS hls h1 h2 h3 => ?_)
  · refine g_i2lN C d_La_late_7 ?_
    refine g_lastO C hT.2.1 d_La_late_8 ?_
    refine g_goto C 15 d_La_late_9 (by decide) ?_
    refine g_iconst C d_La_late_15 ?_
    exact g_iret C hr d_La_late_16 ⟨Mc, _, rfl, dj_oU hd2, Or.inl ⟨rfl, z, updL_0, hp⟩⟩
  · have hE0 := hE
    obtain ⟨rfl, -⟩ := hE
    refine g_catch C [] ⟨0, 9, 12, 13⟩ [] hex (fun z hz => nomatch hz) rfl (by decide) cl_La_13 hL.1 hW hS hls h1 h2 h3 ?_
    refine g_astore_n (lv' := (3, .ref q9) :: [(0, .ref x), (1, .int (iI z1_)), (2, .ref ou)]) C d_La_late_12 (by decide) rfl ?_
    refine g_iconst C d_La_late_13 ?_
    exact g_iret C hr d_La_late_14 ⟨M, f, rfl, hd, Or.inr ⟨xIA, by simp, hE0, rfl⟩⟩
abbrev hh_La_fine : List (Nat × Nat × Nat × Nat) := [(0, 10, 13, 13)]
theorem ct_La_fine (l : Launch) (hl0 : l.stackTraces = false) (D : va_G) (tys : xK) (A : Nat → Prop) (M : Wm) (hT : tyOK tys) (x ou : Nat) (f : Nat → Int64) (s : AS) (z1_ z2_ : Int) (hz1 : -2147483648 ≤ z1_ ∧ z1_ < 2147483648) (hz2 : -2147483648 ≤ z2_ ∧ z2_ < 2147483648) (hR : RC tys M x s) (hd : dj M (oU tys ou f)) : wT l y_La_fine b_La_fine 5 (some .int) hh_La_fine { frames := 7, cells := 1, slots := 6, locals := 116 } D tys A [.ref x, .int (iI z1_), .int (iI z2_), .ref ou] (mj M (oU tys ou f)) (qI D A (qW tys M ou [(xIA, 1)] (fun z M' => ((0 ≤ z1_ ∧ z1_ < s 0 0 3) ∧ (0 ≤ z2_ ∧ z2_ ≤ 100000)) ∧ z = sFine (s 0 0 0) (z2_ - sDue (s 3 z1_.toNat)) ∧ M' = M) (fun E => E = xIA ∧ ¬ ((0 ≤ z1_ ∧ z1_ < s 0 0 3) ∧ (0 ≤ z2_ ∧ z2_ ≤ 100000))))) 1 6 := by
  obtain ⟨fs, hob⟩ := RC_ob hR
  refine wet_of (own := R_La) rfl (by decide +kernel) (Nat.le_of_ble_eq_true rfl) rfl ?_
  intro p e st m below meth c C hr hex hL
  refine g_aload_n C d_La_fine_0 3 rfl ?_
  refine g_iconst C d_La_fine_1 ?_
  refine g_aload_n C d_La_fine_2 0 rfl ?_
  refine g_iload_n C d_La_fine_3 1 rfl ?_
  refine g_iload_n C d_La_fine_4 2 rfl ?_
  refine g_xcall C hd (rest := [.int (iI 0), .ref ou]) [.int (iI z1_), .int (iI z2_)] k_La_60 (xa_t 650 (by decide +kernel) rfl) (ct_Ct_fine l hl0 D tys (Af A (oU tys ou f)) M hT x s z1_ z2_ hz1 hz2 hR) hob ⟨rfl, rfl, Nat.le_of_ble_eq_true rfl, Nat.le_of_ble_eq_true rfl⟩ rfl rfl (Nat.le_of_ble_eq_true rfl) d_La_fine_5 ⟨Nat.le_of_ble_eq_true rfl, Nat.le_of_ble_eq_true rfl⟩ (fun z Mc hp hd2 => ?_) (fun E hE H1 locs1 ls ce q9 hW hS hls h1 h2 h3 => ?_)
  · refine g_i2lN C d_La_fine_8 ?_
    refine g_lastO C hT.2.1 d_La_fine_9 ?_
    refine g_goto C 17 d_La_fine_10 (by decide) ?_
    refine g_iconst C d_La_fine_17 ?_
    exact g_iret C hr d_La_fine_18 ⟨Mc, _, rfl, dj_oU hd2, Or.inl ⟨rfl, z, updL_0, hp⟩⟩
  · have hE0 := hE
    obtain ⟨rfl, -⟩ := hE
    refine g_catch C [] ⟨0, 10, 13, 13⟩ [] hex (fun z hz => nomatch hz) rfl (by decide) cl_La_13 hL.1 hW hS hls h1 h2 h3 ?_
    refine g_astore (lv' := (4, .ref q9) :: [(0, .ref x), (1, .int (iI z1_)), (2, .int (iI z2_)), (3, .ref ou)]) C d_La_fine_13 (by decide) rfl ?_
    refine g_iconst C d_La_fine_15 ?_
    exact g_iret C hr d_La_fine_16 ⟨M, f, rfl, hd, Or.inr ⟨xIA, by simp, hE0, rfl⟩⟩
abbrev hh_La_wanted : List (Nat × Nat × Nat × Nat) := [(0, 10, 13, 13)]
theorem ct_La_wanted (l : Launch) (hl0 : l.stackTraces = false) (D : va_G) (tys : xK) (A : Nat → Prop) (M : Wm) (hT : tyOK tys) (x ou : Nat) (f : Nat → Int64) (s : AS) (z1_ z2_ : Int) (hz1 : -2147483648 ≤ z1_ ∧ z1_ < 2147483648) (hz2 : -2147483648 ≤ z2_ ∧ z2_ < 2147483648) (hR : RC tys M x s) (hd : dj M (oU tys ou f)) : wT l y_La_wanted b_La_wanted 5 (some .int) hh_La_wanted { frames := 7, cells := 1, slots := 6, locals := 114 } D tys A [.ref x, .int (iI z1_), .int (iI z2_), .ref ou] (mj M (oU tys ou f)) (qI D A (qW tys M ou [(xIA, 1)] (fun z M' => ((0 ≤ z1_ ∧ z1_ ≤ 4) ∧ (0 ≤ z2_ ∧ z2_ ≤ 100000)) ∧ ((s 5 0 z1_.toNat < sCnt s z1_ z2_ (s 0 0 3).toNat ∧ z = sCnt s z1_ z2_ (s 0 0 3).toNat - s 5 0 z1_.toNat) ∨ (¬ s 5 0 z1_.toNat < sCnt s z1_ z2_ (s 0 0 3).toNat ∧ z = 0)) ∧ M' = M) (fun E => E = xIA ∧ ¬ ((0 ≤ z1_ ∧ z1_ ≤ 4) ∧ (0 ≤ z2_ ∧ z2_ ≤ 100000))))) 1 6 := by
  obtain ⟨fs, hob⟩ := RC_ob hR
  refine wet_of (own := R_La) rfl (by decide +kernel) (Nat.le_of_ble_eq_true rfl) rfl ?_
  intro p e st m below meth c C hr hex hL
  refine g_aload_n C d_La_wanted_0 3 rfl ?_
  refine g_iconst C d_La_wanted_1 ?_
  refine g_aload_n C d_La_wanted_2 0 rfl ?_
  refine g_iload_n C d_La_wanted_3 1 rfl ?_
  refine g_iload_n C d_La_wanted_4 2 rfl ?_
  refine g_xcall C hd (rest := [.int (iI 0), .ref ou]) [.int (iI z1_), .int (iI z2_)] k_La_63 (xa_t 659 (by decide +kernel) rfl) (ct_Ct_wanted l hl0 D tys (Af A (oU tys ou f)) M hT x s z1_ z2_ hz1 hz2 hR) hob ⟨rfl, rfl, Nat.le_of_ble_eq_true rfl, Nat.le_of_ble_eq_true rfl⟩ rfl rfl (Nat.le_of_ble_eq_true rfl) d_La_wanted_5 ⟨Nat.le_of_ble_eq_true rfl, Nat.le_of_ble_eq_true rfl⟩ (fun z Mc hp hd2 => ?_) (fun E hE H1 locs1 ls ce q9 hW hS hls h1 h2 h3 => ?_)
  · refine g_i2lN C d_La_wanted_8 ?_
    refine g_lastO C hT.2.1 d_La_wanted_9 ?_
    refine g_goto C 17 d_La_wanted_10 (by decide) ?_
    refine g_iconst C d_La_wanted_17 ?_
    exact g_iret C hr d_La_wanted_18 ⟨Mc, _, rfl, dj_oU hd2, Or.inl ⟨rfl, z, updL_0, hp⟩⟩
  · have hE0 := hE
    obtain ⟨rfl, -⟩ := hE
    refine g_catch C [] ⟨0, 10, 13, 13⟩ [] hex (fun z hz => nomatch hz) rfl (by decide) cl_La_13 hL.1 hW hS hls h1 h2 h3 ?_
    refine g_astore (lv' := (4, .ref q9) :: [(0, .ref x), (1, .int (iI z1_)), (2, .int (iI z2_)), (3, .ref ou)]) C d_La_wanted_13 (by decide) rfl ?_
    refine g_iconst C d_La_wanted_15 ?_
    exact g_iret C hr d_La_wanted_16 ⟨M, f, rfl, hd, Or.inr ⟨xIA, by simp, hE0, rfl⟩⟩
theorem w_La_78 : xCW R_La 78 y_La_place b_La_place 6 (some .int) hh_La_place 5 := ⟨xa_t 154 (by decide +kernel) rfl, xa_t 0 (by decide +kernel) rfl, ⟨by decide +kernel, by decide +kernel, by decide +kernel⟩, xa_t 152 (by decide +kernel) rfl, xa_t 153 (by decide +kernel) rfl⟩
theorem w_La_85 : xCW R_La 85 y_La_lift b_La_lift 9 (some .int) hh_La_lift 8 := ⟨xa_t 280 (by decide +kernel) rfl, xa_t 0 (by decide +kernel) rfl, ⟨by decide +kernel, by decide +kernel, by decide +kernel⟩, xa_t 278 (by decide +kernel) rfl, xa_t 279 (by decide +kernel) rfl⟩
theorem w_La_89 : xCW R_La 89 y_La_part b_La_part 9 (some .int) hh_La_part 8 := ⟨xa_t 319 (by decide +kernel) rfl, xa_t 0 (by decide +kernel) rfl, ⟨by decide +kernel, by decide +kernel, by decide +kernel⟩, xa_t 317 (by decide +kernel) rfl, xa_t 318 (by decide +kernel) rfl⟩
theorem w_La_92 : xCW R_La 92 y_La_person b_La_person 6 (some .int) hh_La_person 5 := ⟨xa_t 388 (by decide +kernel) rfl, xa_t 0 (by decide +kernel) rfl, ⟨by decide +kernel, by decide +kernel, by decide +kernel⟩, xa_t 386 (by decide +kernel) rfl, xa_t 387 (by decide +kernel) rfl⟩
theorem w_La_95 : xCW R_La 95 y_La_used b_La_used 6 (some .int) hh_La_used 5 := ⟨xa_t 420 (by decide +kernel) rfl, xa_t 0 (by decide +kernel) rfl, ⟨by decide +kernel, by decide +kernel, by decide +kernel⟩, xa_t 418 (by decide +kernel) rfl, xa_t 419 (by decide +kernel) rfl⟩
theorem w_La_98 : xCW R_La 98 y_La_stock b_La_stock 5 (some .int) hh_La_stock 4 := ⟨xa_t 440 (by decide +kernel) rfl, xa_t 0 (by decide +kernel) rfl, ⟨by decide +kernel, by decide +kernel, by decide +kernel⟩, xa_t 438 (by decide +kernel) rfl, xa_t 439 (by decide +kernel) rfl⟩
theorem w_La_102 : xCW R_La 102 y_La_walk b_La_walk 5 (some .int) hh_La_walk 4 := ⟨xa_t 448 (by decide +kernel) rfl, xa_t 0 (by decide +kernel) rfl, ⟨by decide +kernel, by decide +kernel, by decide +kernel⟩, xa_t 446 (by decide +kernel) rfl, xa_t 447 (by decide +kernel) rfl⟩
theorem w_La_105 : xCW R_La 105 y_La_tour b_La_tour 5 (some .int) hh_La_tour 4 := ⟨xa_t 479 (by decide +kernel) rfl, xa_t 0 (by decide +kernel) rfl, ⟨by decide +kernel, by decide +kernel, by decide +kernel⟩, xa_t 477 (by decide +kernel) rfl, xa_t 478 (by decide +kernel) rfl⟩
theorem w_La_108 : xCW R_La 108 y_La_stop b_La_stop 4 (some .int) hh_La_stop 3 := ⟨xa_t 569 (by decide +kernel) rfl, xa_t 0 (by decide +kernel) rfl, ⟨by decide +kernel, by decide +kernel, by decide +kernel⟩, xa_t 567 (by decide +kernel) rfl, xa_t 568 (by decide +kernel) rfl⟩
theorem w_La_112 : xCW R_La 112 y_La_told b_La_told 4 (some .int) hh_La_told 3 := ⟨xa_t 577 (by decide +kernel) rfl, xa_t 0 (by decide +kernel) rfl, ⟨by decide +kernel, by decide +kernel, by decide +kernel⟩, xa_t 575 (by decide +kernel) rfl, xa_t 576 (by decide +kernel) rfl⟩
theorem w_La_115 : xCW R_La 115 y_La_put b_La_put 4 (some .int) hh_La_put 3 := ⟨xa_t 585 (by decide +kernel) rfl, xa_t 0 (by decide +kernel) rfl, ⟨by decide +kernel, by decide +kernel, by decide +kernel⟩, xa_t 583 (by decide +kernel) rfl, xa_t 584 (by decide +kernel) rfl⟩
theorem w_La_118 : xCW R_La 118 y_La_done b_La_done 3 (some .int) hh_La_done 2 := ⟨xa_t 622 (by decide +kernel) rfl, xa_t 0 (by decide +kernel) rfl, ⟨by decide +kernel, by decide +kernel, by decide +kernel⟩, xa_t 620 (by decide +kernel) rfl, xa_t 621 (by decide +kernel) rfl⟩
theorem w_La_122 : xCW R_La 122 y_La_due b_La_due 4 (some .int) hh_La_due 3 := ⟨xa_t 634 (by decide +kernel) rfl, xa_t 0 (by decide +kernel) rfl, ⟨by decide +kernel, by decide +kernel, by decide +kernel⟩, xa_t 632 (by decide +kernel) rfl, xa_t 633 (by decide +kernel) rfl⟩
theorem w_La_125 : xCW R_La 125 y_La_late b_La_late 4 (some .int) hh_La_late 3 := ⟨xa_t 641 (by decide +kernel) rfl, xa_t 0 (by decide +kernel) rfl, ⟨by decide +kernel, by decide +kernel, by decide +kernel⟩, xa_t 639 (by decide +kernel) rfl, xa_t 640 (by decide +kernel) rfl⟩
theorem w_La_128 : xCW R_La 128 y_La_fine b_La_fine 5 (some .int) hh_La_fine 4 := ⟨xa_t 649 (by decide +kernel) rfl, xa_t 0 (by decide +kernel) rfl, ⟨by decide +kernel, by decide +kernel, by decide +kernel⟩, xa_t 647 (by decide +kernel) rfl, xa_t 648 (by decide +kernel) rfl⟩
theorem w_La_131 : xCW R_La 131 y_La_wanted b_La_wanted 5 (some .int) hh_La_wanted 4 := ⟨xa_t 658 (by decide +kernel) rfl, xa_t 0 (by decide +kernel) rfl, ⟨by decide +kernel, by decide +kernel, by decide +kernel⟩, xa_t 656 (by decide +kernel) rfl, xa_t 657 (by decide +kernel) rfl⟩
