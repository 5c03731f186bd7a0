/-! THE MODEL, its face: written by program (wip/whole/gen/mo3.py) -/
set_option maxHeartbeats 4000000 in
set_option maxRecDepth 100000 in
theorem ct_Mo_init (l : Launch) (D : va_G) (tys : xK) (A : Nat → Prop) (M : Wm) (hT : tyOK tys) (m : Nat) (z0 : Int) (hz0 : (-2147483648 ≤ z0 ∧ z0 < 2147483648)) (h : M m = some (.inr (8, [.int (iI 0), .int (iI 0), .int (iI 0), .null, .null, .null, .int (iI 0), .null, .null, .null, .null, .null, .null, .int (iI 0), .null, .null, .null, .null, .null, .null, .null, .null, .null, .null, .int (iI 0), .null, .null, .null, .null, .int (iI 0), .int (iI 0), .int (iI 0), .int (iI 0), .null, .null, .null, .null]))) : mT l y_Mo_init b_Mo_init 2 none { frames := 1, cells := 27, slots := 596, locals := 21 } D tys A [.ref m, .int (iI z0)] M (qV D A (fun M' => RM tys M' m (sNew (sRate z0)) 0)) 27 596 := by
  refine met_of (own := R_Mo) (lv := [(0, .ref m), (1, .int (iI z0))]) rfl (by decide) (Nat.le_of_ble_eq_true rfl) rfl ?_
  intro p_ e_ s_ m_ bl_ me_ c_ C hr hin
  have hT9 := hT
  obtain ⟨hT0, hT1, hT2, hT3, hT4, hT5, hT32, hT42, hT52, hT43, hT53, hT54⟩ := hT
  have hsr := sRate_or z0
  have hI0 : MI tys M m (fun _ => none) 0 0 0 0 0 0 0 0 0 0 0 := MI_0 h
  refine g_aload_n C d_Mo_init_0 0 rfl ?_
  refine g_objInit C oi_Mo_1 ⟨Nat.le_of_ble_eq_true rfl, Nat.le_of_ble_eq_true rfl⟩ d_Mo_init_1 ?_
  refine g_aload_n C d_Mo_init_4 0 rfl ?_
  refine g_bipush C d_Mo_init_5 (by decide) ?_
  refine g_newI C 0 hT0 30 ac_int ⟨by first | rfl | omega, by decide⟩ ⟨Nat.le_of_ble_eq_true rfl, Nat.le_of_ble_eq_true rfl⟩ d_Mo_init_7 (fun q1 hq1 => ?_)
  refine g_putF C hin p_Mo_7 ((wd_up_n (ne_new hq1 hI0.1)).trans hI0.1) rfl rfl (Nat.le_of_ble_eq_true rfl) (fs' := [.int (iI 0), .int (iI 0), .int (iI 0), va_rf ((va_up (fun _ => none) 0 (some q1)) 0), va_rf ((va_up (fun _ => none) 0 (some q1)) 1), va_rf ((va_up (fun _ => none) 0 (some q1)) 2), .int (iI 0), va_rf ((va_up (fun _ => none) 0 (some q1)) 3), va_rf ((va_up (fun _ => none) 0 (some q1)) 4), va_rf ((va_up (fun _ => none) 0 (some q1)) 5), va_rf ((va_up (fun _ => none) 0 (some q1)) 6), va_rf ((va_up (fun _ => none) 0 (some q1)) 7), va_rf ((va_up (fun _ => none) 0 (some q1)) 8), .int (iI 0), va_rf ((va_up (fun _ => none) 0 (some q1)) 9), va_rf ((va_up (fun _ => none) 0 (some q1)) 10), va_rf ((va_up (fun _ => none) 0 (some q1)) 11), va_rf ((va_up (fun _ => none) 0 (some q1)) 12), va_rf ((va_up (fun _ => none) 0 (some q1)) 13), va_rf ((va_up (fun _ => none) 0 (some q1)) 14), va_rf ((va_up (fun _ => none) 0 (some q1)) 15), va_rf ((va_up (fun _ => none) 0 (some q1)) 16), va_rf ((va_up (fun _ => none) 0 (some q1)) 17), va_rf ((va_up (fun _ => none) 0 (some q1)) 18), .int (iI 0), va_rf ((va_up (fun _ => none) 0 (some q1)) 19), va_rf ((va_up (fun _ => none) 0 (some q1)) 20), va_rf ((va_up (fun _ => none) 0 (some q1)) 21), va_rf ((va_up (fun _ => none) 0 (some q1)) 22), .int (iI 0), .int (iI 0), .int (iI 0), .int (iI 0), va_rf ((va_up (fun _ => none) 0 (some q1)) 23), va_rf ((va_up (fun _ => none) 0 (some q1)) 24), va_rf ((va_up (fun _ => none) 0 (some q1)) 25), va_rf ((va_up (fun _ => none) 0 (some q1)) 26)]) rfl d_Mo_init_9 ?_
  refine g_abs (X := fun M_ => ∃ b_ : Nat → Option Nat, MI tys M_ m b_ 1 0 0 0 0 0 0 0 0 0 0) ⟨_, MI_s hI0 hq1 rfl⟩ (fun M2 hI4 => ?_)
  obtain ⟨b3, hI4⟩ := hI4
  refine g_aload_n C d_Mo_init_12 0 rfl ?_
  refine g_bipush C d_Mo_init_13 (by decide) ?_
  refine g_newI C 0 hT0 30 ac_int ⟨by first | rfl | omega, by decide⟩ ⟨Nat.le_of_ble_eq_true rfl, Nat.le_of_ble_eq_true rfl⟩ d_Mo_init_15 (fun q5 hq5 => ?_)
  refine g_putF C hin p_Mo_13 ((wd_up_n (ne_new hq5 hI4.1)).trans hI4.1) rfl rfl (Nat.le_of_ble_eq_true rfl) (fs' := [.int (iI 0), .int (iI 0), .int (iI 0), va_rf ((va_up b3 1 (some q5)) 0), va_rf ((va_up b3 1 (some q5)) 1), va_rf ((va_up b3 1 (some q5)) 2), .int (iI 0), va_rf ((va_up b3 1 (some q5)) 3), va_rf ((va_up b3 1 (some q5)) 4), va_rf ((va_up b3 1 (some q5)) 5), va_rf ((va_up b3 1 (some q5)) 6), va_rf ((va_up b3 1 (some q5)) 7), va_rf ((va_up b3 1 (some q5)) 8), .int (iI 0), va_rf ((va_up b3 1 (some q5)) 9), va_rf ((va_up b3 1 (some q5)) 10), va_rf ((va_up b3 1 (some q5)) 11), va_rf ((va_up b3 1 (some q5)) 12), va_rf ((va_up b3 1 (some q5)) 13), va_rf ((va_up b3 1 (some q5)) 14), va_rf ((va_up b3 1 (some q5)) 15), va_rf ((va_up b3 1 (some q5)) 16), va_rf ((va_up b3 1 (some q5)) 17), va_rf ((va_up b3 1 (some q5)) 18), .int (iI 0), va_rf ((va_up b3 1 (some q5)) 19), va_rf ((va_up b3 1 (some q5)) 20), va_rf ((va_up b3 1 (some q5)) 21), va_rf ((va_up b3 1 (some q5)) 22), .int (iI 0), .int (iI 0), .int (iI 0), .int (iI 0), va_rf ((va_up b3 1 (some q5)) 23), va_rf ((va_up b3 1 (some q5)) 24), va_rf ((va_up b3 1 (some q5)) 25), va_rf ((va_up b3 1 (some q5)) 26)]) rfl d_Mo_init_17 ?_
  refine g_abs (X := fun M_ => ∃ b_ : Nat → Option Nat, MI tys M_ m b_ 2 0 0 0 0 0 0 0 0 0 0) ⟨_, MI_s hI4 hq5 rfl⟩ (fun M6 hI8 => ?_)
  obtain ⟨b7, hI8⟩ := hI8
  refine g_aload_n C d_Mo_init_20 0 rfl ?_
  refine g_bipush C d_Mo_init_21 (by decide) ?_
  refine g_newI C 0 hT0 30 ac_int ⟨by first | rfl | omega, by decide⟩ ⟨Nat.le_of_ble_eq_true rfl, Nat.le_of_ble_eq_true rfl⟩ d_Mo_init_23 (fun q9 hq9 => ?_)
  refine g_putF C hin p_Mo_16 ((wd_up_n (ne_new hq9 hI8.1)).trans hI8.1) rfl rfl (Nat.le_of_ble_eq_true rfl) (fs' := [.int (iI 0), .int (iI 0), .int (iI 0), va_rf ((va_up b7 2 (some q9)) 0), va_rf ((va_up b7 2 (some q9)) 1), va_rf ((va_up b7 2 (some q9)) 2), .int (iI 0), va_rf ((va_up b7 2 (some q9)) 3), va_rf ((va_up b7 2 (some q9)) 4), va_rf ((va_up b7 2 (some q9)) 5), va_rf ((va_up b7 2 (some q9)) 6), va_rf ((va_up b7 2 (some q9)) 7), va_rf ((va_up b7 2 (some q9)) 8), .int (iI 0), va_rf ((va_up b7 2 (some q9)) 9), va_rf ((va_up b7 2 (some q9)) 10), va_rf ((va_up b7 2 (some q9)) 11), va_rf ((va_up b7 2 (some q9)) 12), va_rf ((va_up b7 2 (some q9)) 13), va_rf ((va_up b7 2 (some q9)) 14), va_rf ((va_up b7 2 (some q9)) 15), va_rf ((va_up b7 2 (some q9)) 16), va_rf ((va_up b7 2 (some q9)) 17), va_rf ((va_up b7 2 (some q9)) 18), .int (iI 0), va_rf ((va_up b7 2 (some q9)) 19), va_rf ((va_up b7 2 (some q9)) 20), va_rf ((va_up b7 2 (some q9)) 21), va_rf ((va_up b7 2 (some q9)) 22), .int (iI 0), .int (iI 0), .int (iI 0), .int (iI 0), va_rf ((va_up b7 2 (some q9)) 23), va_rf ((va_up b7 2 (some q9)) 24), va_rf ((va_up b7 2 (some q9)) 25), va_rf ((va_up b7 2 (some q9)) 26)]) rfl d_Mo_init_25 ?_
  refine g_abs (X := fun M_ => ∃ b_ : Nat → Option Nat, MI tys M_ m b_ 3 0 0 0 0 0 0 0 0 0 0) ⟨_, MI_s hI8 hq9 rfl⟩ (fun M10 hI12 => ?_)
  obtain ⟨b11, hI12⟩ := hI12
  refine g_aload_n C d_Mo_init_28 0 rfl ?_
  refine g_bipush C d_Mo_init_29 (by decide) ?_
  refine g_newI C 0 hT0 6 ac_int ⟨by first | rfl | omega, by decide⟩ ⟨Nat.le_of_ble_eq_true rfl, Nat.le_of_ble_eq_true rfl⟩ d_Mo_init_31 (fun q13 hq13 => ?_)
  refine g_putF C hin p_Mo_19 ((wd_up_n (ne_new hq13 hI12.1)).trans hI12.1) rfl rfl (Nat.le_of_ble_eq_true rfl) (fs' := [.int (iI 0), .int (iI 0), .int (iI 0), va_rf ((va_up b11 3 (some q13)) 0), va_rf ((va_up b11 3 (some q13)) 1), va_rf ((va_up b11 3 (some q13)) 2), .int (iI 0), va_rf ((va_up b11 3 (some q13)) 3), va_rf ((va_up b11 3 (some q13)) 4), va_rf ((va_up b11 3 (some q13)) 5), va_rf ((va_up b11 3 (some q13)) 6), va_rf ((va_up b11 3 (some q13)) 7), va_rf ((va_up b11 3 (some q13)) 8), .int (iI 0), va_rf ((va_up b11 3 (some q13)) 9), va_rf ((va_up b11 3 (some q13)) 10), va_rf ((va_up b11 3 (some q13)) 11), va_rf ((va_up b11 3 (some q13)) 12), va_rf ((va_up b11 3 (some q13)) 13), va_rf ((va_up b11 3 (some q13)) 14), va_rf ((va_up b11 3 (some q13)) 15), va_rf ((va_up b11 3 (some q13)) 16), va_rf ((va_up b11 3 (some q13)) 17), va_rf ((va_up b11 3 (some q13)) 18), .int (iI 0), va_rf ((va_up b11 3 (some q13)) 19), va_rf ((va_up b11 3 (some q13)) 20), va_rf ((va_up b11 3 (some q13)) 21), va_rf ((va_up b11 3 (some q13)) 22), .int (iI 0), .int (iI 0), .int (iI 0), .int (iI 0), va_rf ((va_up b11 3 (some q13)) 23), va_rf ((va_up b11 3 (some q13)) 24), va_rf ((va_up b11 3 (some q13)) 25), va_rf ((va_up b11 3 (some q13)) 26)]) rfl d_Mo_init_33 ?_
  refine g_abs (X := fun M_ => ∃ b_ : Nat → Option Nat, MI tys M_ m b_ 4 0 0 0 0 0 0 0 0 0 0) ⟨_, MI_s hI12 hq13 rfl⟩ (fun M14 hI16 => ?_)
  obtain ⟨b15, hI16⟩ := hI16
  refine g_aload_n C d_Mo_init_36 0 rfl ?_
  refine g_bipush C d_Mo_init_37 (by decide) ?_
  refine g_newI C 0 hT0 6 ac_int ⟨by first | rfl | omega, by decide⟩ ⟨Nat.le_of_ble_eq_true rfl, Nat.le_of_ble_eq_true rfl⟩ d_Mo_init_39 (fun q17 hq17 => ?_)
  refine g_putF C hin p_Mo_22 ((wd_up_n (ne_new hq17 hI16.1)).trans hI16.1) rfl rfl (Nat.le_of_ble_eq_true rfl) (fs' := [.int (iI 0), .int (iI 0), .int (iI 0), va_rf ((va_up b15 4 (some q17)) 0), va_rf ((va_up b15 4 (some q17)) 1), va_rf ((va_up b15 4 (some q17)) 2), .int (iI 0), va_rf ((va_up b15 4 (some q17)) 3), va_rf ((va_up b15 4 (some q17)) 4), va_rf ((va_up b15 4 (some q17)) 5), va_rf ((va_up b15 4 (some q17)) 6), va_rf ((va_up b15 4 (some q17)) 7), va_rf ((va_up b15 4 (some q17)) 8), .int (iI 0), va_rf ((va_up b15 4 (some q17)) 9), va_rf ((va_up b15 4 (some q17)) 10), va_rf ((va_up b15 4 (some q17)) 11), va_rf ((va_up b15 4 (some q17)) 12), va_rf ((va_up b15 4 (some q17)) 13), va_rf ((va_up b15 4 (some q17)) 14), va_rf ((va_up b15 4 (some q17)) 15), va_rf ((va_up b15 4 (some q17)) 16), va_rf ((va_up b15 4 (some q17)) 17), va_rf ((va_up b15 4 (some q17)) 18), .int (iI 0), va_rf ((va_up b15 4 (some q17)) 19), va_rf ((va_up b15 4 (some q17)) 20), va_rf ((va_up b15 4 (some q17)) 21), va_rf ((va_up b15 4 (some q17)) 22), .int (iI 0), .int (iI 0), .int (iI 0), .int (iI 0), va_rf ((va_up b15 4 (some q17)) 23), va_rf ((va_up b15 4 (some q17)) 24), va_rf ((va_up b15 4 (some q17)) 25), va_rf ((va_up b15 4 (some q17)) 26)]) rfl d_Mo_init_41 ?_
  refine g_abs (X := fun M_ => ∃ b_ : Nat → Option Nat, MI tys M_ m b_ 5 0 0 0 0 0 0 0 0 0 0) ⟨_, MI_s hI16 hq17 rfl⟩ (fun M18 hI20 => ?_)
  obtain ⟨b19, hI20⟩ := hI20
  refine g_aload_n C d_Mo_init_44 0 rfl ?_
  refine g_bipush C d_Mo_init_45 (by decide) ?_
  refine g_newI C 0 hT0 6 ac_int ⟨by first | rfl | omega, by decide⟩ ⟨Nat.le_of_ble_eq_true rfl, Nat.le_of_ble_eq_true rfl⟩ d_Mo_init_47 (fun q21 hq21 => ?_)
  refine g_putF C hin p_Mo_25 ((wd_up_n (ne_new hq21 hI20.1)).trans hI20.1) rfl rfl (Nat.le_of_ble_eq_true rfl) (fs' := [.int (iI 0), .int (iI 0), .int (iI 0), va_rf ((va_up b19 5 (some q21)) 0), va_rf ((va_up b19 5 (some q21)) 1), va_rf ((va_up b19 5 (some q21)) 2), .int (iI 0), va_rf ((va_up b19 5 (some q21)) 3), va_rf ((va_up b19 5 (some q21)) 4), va_rf ((va_up b19 5 (some q21)) 5), va_rf ((va_up b19 5 (some q21)) 6), va_rf ((va_up b19 5 (some q21)) 7), va_rf ((va_up b19 5 (some q21)) 8), .int (iI 0), va_rf ((va_up b19 5 (some q21)) 9), va_rf ((va_up b19 5 (some q21)) 10), va_rf ((va_up b19 5 (some q21)) 11), va_rf ((va_up b19 5 (some q21)) 12), va_rf ((va_up b19 5 (some q21)) 13), va_rf ((va_up b19 5 (some q21)) 14), va_rf ((va_up b19 5 (some q21)) 15), va_rf ((va_up b19 5 (some q21)) 16), va_rf ((va_up b19 5 (some q21)) 17), va_rf ((va_up b19 5 (some q21)) 18), .int (iI 0), va_rf ((va_up b19 5 (some q21)) 19), va_rf ((va_up b19 5 (some q21)) 20), va_rf ((va_up b19 5 (some q21)) 21), va_rf ((va_up b19 5 (some q21)) 22), .int (iI 0), .int (iI 0), .int (iI 0), .int (iI 0), va_rf ((va_up b19 5 (some q21)) 23), va_rf ((va_up b19 5 (some q21)) 24), va_rf ((va_up b19 5 (some q21)) 25), va_rf ((va_up b19 5 (some q21)) 26)]) rfl d_Mo_init_49 ?_
  refine g_abs (X := fun M_ => ∃ b_ : Nat → Option Nat, MI tys M_ m b_ 6 0 0 0 0 0 0 0 0 0 0) ⟨_, MI_s hI20 hq21 rfl⟩ (fun M22 hI24 => ?_)
  obtain ⟨b23, hI24⟩ := hI24
  refine g_aload_n C d_Mo_init_52 0 rfl ?_
  refine g_bipush C d_Mo_init_53 (by decide) ?_
  refine g_newI C 0 hT0 6 ac_int ⟨by first | rfl | omega, by decide⟩ ⟨Nat.le_of_ble_eq_true rfl, Nat.le_of_ble_eq_true rfl⟩ d_Mo_init_55 (fun q25 hq25 => ?_)
  refine g_putF C hin p_Mo_28 ((wd_up_n (ne_new hq25 hI24.1)).trans hI24.1) rfl rfl (Nat.le_of_ble_eq_true rfl) (fs' := [.int (iI 0), .int (iI 0), .int (iI 0), va_rf ((va_up b23 6 (some q25)) 0), va_rf ((va_up b23 6 (some q25)) 1), va_rf ((va_up b23 6 (some q25)) 2), .int (iI 0), va_rf ((va_up b23 6 (some q25)) 3), va_rf ((va_up b23 6 (some q25)) 4), va_rf ((va_up b23 6 (some q25)) 5), va_rf ((va_up b23 6 (some q25)) 6), va_rf ((va_up b23 6 (some q25)) 7), va_rf ((va_up b23 6 (some q25)) 8), .int (iI 0), va_rf ((va_up b23 6 (some q25)) 9), va_rf ((va_up b23 6 (some q25)) 10), va_rf ((va_up b23 6 (some q25)) 11), va_rf ((va_up b23 6 (some q25)) 12), va_rf ((va_up b23 6 (some q25)) 13), va_rf ((va_up b23 6 (some q25)) 14), va_rf ((va_up b23 6 (some q25)) 15), va_rf ((va_up b23 6 (some q25)) 16), va_rf ((va_up b23 6 (some q25)) 17), va_rf ((va_up b23 6 (some q25)) 18), .int (iI 0), va_rf ((va_up b23 6 (some q25)) 19), va_rf ((va_up b23 6 (some q25)) 20), va_rf ((va_up b23 6 (some q25)) 21), va_rf ((va_up b23 6 (some q25)) 22), .int (iI 0), .int (iI 0), .int (iI 0), .int (iI 0), va_rf ((va_up b23 6 (some q25)) 23), va_rf ((va_up b23 6 (some q25)) 24), va_rf ((va_up b23 6 (some q25)) 25), va_rf ((va_up b23 6 (some q25)) 26)]) rfl d_Mo_init_57 ?_
  refine g_abs (X := fun M_ => ∃ b_ : Nat → Option Nat, MI tys M_ m b_ 7 0 0 0 0 0 0 0 0 0 0) ⟨_, MI_s hI24 hq25 rfl⟩ (fun M26 hI28 => ?_)
  obtain ⟨b27, hI28⟩ := hI28
  refine g_aload_n C d_Mo_init_60 0 rfl ?_
  refine g_bipush C d_Mo_init_61 (by decide) ?_
  refine g_newI C 0 hT0 6 ac_int ⟨by first | rfl | omega, by decide⟩ ⟨Nat.le_of_ble_eq_true rfl, Nat.le_of_ble_eq_true rfl⟩ d_Mo_init_63 (fun q29 hq29 => ?_)
  refine g_putF C hin p_Mo_31 ((wd_up_n (ne_new hq29 hI28.1)).trans hI28.1) rfl rfl (Nat.le_of_ble_eq_true rfl) (fs' := [.int (iI 0), .int (iI 0), .int (iI 0), va_rf ((va_up b27 7 (some q29)) 0), va_rf ((va_up b27 7 (some q29)) 1), va_rf ((va_up b27 7 (some q29)) 2), .int (iI 0), va_rf ((va_up b27 7 (some q29)) 3), va_rf ((va_up b27 7 (some q29)) 4), va_rf ((va_up b27 7 (some q29)) 5), va_rf ((va_up b27 7 (some q29)) 6), va_rf ((va_up b27 7 (some q29)) 7), va_rf ((va_up b27 7 (some q29)) 8), .int (iI 0), va_rf ((va_up b27 7 (some q29)) 9), va_rf ((va_up b27 7 (some q29)) 10), va_rf ((va_up b27 7 (some q29)) 11), va_rf ((va_up b27 7 (some q29)) 12), va_rf ((va_up b27 7 (some q29)) 13), va_rf ((va_up b27 7 (some q29)) 14), va_rf ((va_up b27 7 (some q29)) 15), va_rf ((va_up b27 7 (some q29)) 16), va_rf ((va_up b27 7 (some q29)) 17), va_rf ((va_up b27 7 (some q29)) 18), .int (iI 0), va_rf ((va_up b27 7 (some q29)) 19), va_rf ((va_up b27 7 (some q29)) 20), va_rf ((va_up b27 7 (some q29)) 21), va_rf ((va_up b27 7 (some q29)) 22), .int (iI 0), .int (iI 0), .int (iI 0), .int (iI 0), va_rf ((va_up b27 7 (some q29)) 23), va_rf ((va_up b27 7 (some q29)) 24), va_rf ((va_up b27 7 (some q29)) 25), va_rf ((va_up b27 7 (some q29)) 26)]) rfl d_Mo_init_65 ?_
  refine g_abs (X := fun M_ => ∃ b_ : Nat → Option Nat, MI tys M_ m b_ 8 0 0 0 0 0 0 0 0 0 0) ⟨_, MI_s hI28 hq29 rfl⟩ (fun M30 hI32 => ?_)
  obtain ⟨b31, hI32⟩ := hI32
  refine g_aload_n C d_Mo_init_68 0 rfl ?_
  refine g_bipush C d_Mo_init_69 (by decide) ?_
  refine g_newI C 0 hT0 6 ac_int ⟨by first | rfl | omega, by decide⟩ ⟨Nat.le_of_ble_eq_true rfl, Nat.le_of_ble_eq_true rfl⟩ d_Mo_init_71 (fun q33 hq33 => ?_)
  refine g_putF C hin p_Mo_34 ((wd_up_n (ne_new hq33 hI32.1)).trans hI32.1) rfl rfl (Nat.le_of_ble_eq_true rfl) (fs' := [.int (iI 0), .int (iI 0), .int (iI 0), va_rf ((va_up b31 8 (some q33)) 0), va_rf ((va_up b31 8 (some q33)) 1), va_rf ((va_up b31 8 (some q33)) 2), .int (iI 0), va_rf ((va_up b31 8 (some q33)) 3), va_rf ((va_up b31 8 (some q33)) 4), va_rf ((va_up b31 8 (some q33)) 5), va_rf ((va_up b31 8 (some q33)) 6), va_rf ((va_up b31 8 (some q33)) 7), va_rf ((va_up b31 8 (some q33)) 8), .int (iI 0), va_rf ((va_up b31 8 (some q33)) 9), va_rf ((va_up b31 8 (some q33)) 10), va_rf ((va_up b31 8 (some q33)) 11), va_rf ((va_up b31 8 (some q33)) 12), va_rf ((va_up b31 8 (some q33)) 13), va_rf ((va_up b31 8 (some q33)) 14), va_rf ((va_up b31 8 (some q33)) 15), va_rf ((va_up b31 8 (some q33)) 16), va_rf ((va_up b31 8 (some q33)) 17), va_rf ((va_up b31 8 (some q33)) 18), .int (iI 0), va_rf ((va_up b31 8 (some q33)) 19), va_rf ((va_up b31 8 (some q33)) 20), va_rf ((va_up b31 8 (some q33)) 21), va_rf ((va_up b31 8 (some q33)) 22), .int (iI 0), .int (iI 0), .int (iI 0), .int (iI 0), va_rf ((va_up b31 8 (some q33)) 23), va_rf ((va_up b31 8 (some q33)) 24), va_rf ((va_up b31 8 (some q33)) 25), va_rf ((va_up b31 8 (some q33)) 26)]) rfl d_Mo_init_73 ?_
  refine g_abs (X := fun M_ => ∃ b_ : Nat → Option Nat, MI tys M_ m b_ 9 0 0 0 0 0 0 0 0 0 0) ⟨_, MI_s hI32 hq33 rfl⟩ (fun M34 hI36 => ?_)
  obtain ⟨b35, hI36⟩ := hI36
  refine g_aload_n C d_Mo_init_76 0 rfl ?_
  refine g_bipush C d_Mo_init_77 (by decide) ?_
  refine g_newI C 0 hT0 40 ac_int ⟨by first | rfl | omega, by decide⟩ ⟨Nat.le_of_ble_eq_true rfl, Nat.le_of_ble_eq_true rfl⟩ d_Mo_init_79 (fun q37 hq37 => ?_)
  refine g_putF C hin p_Mo_37 ((wd_up_n (ne_new hq37 hI36.1)).trans hI36.1) rfl rfl (Nat.le_of_ble_eq_true rfl) (fs' := [.int (iI 0), .int (iI 0), .int (iI 0), va_rf ((va_up b35 9 (some q37)) 0), va_rf ((va_up b35 9 (some q37)) 1), va_rf ((va_up b35 9 (some q37)) 2), .int (iI 0), va_rf ((va_up b35 9 (some q37)) 3), va_rf ((va_up b35 9 (some q37)) 4), va_rf ((va_up b35 9 (some q37)) 5), va_rf ((va_up b35 9 (some q37)) 6), va_rf ((va_up b35 9 (some q37)) 7), va_rf ((va_up b35 9 (some q37)) 8), .int (iI 0), va_rf ((va_up b35 9 (some q37)) 9), va_rf ((va_up b35 9 (some q37)) 10), va_rf ((va_up b35 9 (some q37)) 11), va_rf ((va_up b35 9 (some q37)) 12), va_rf ((va_up b35 9 (some q37)) 13), va_rf ((va_up b35 9 (some q37)) 14), va_rf ((va_up b35 9 (some q37)) 15), va_rf ((va_up b35 9 (some q37)) 16), va_rf ((va_up b35 9 (some q37)) 17), va_rf ((va_up b35 9 (some q37)) 18), .int (iI 0), va_rf ((va_up b35 9 (some q37)) 19), va_rf ((va_up b35 9 (some q37)) 20), va_rf ((va_up b35 9 (some q37)) 21), va_rf ((va_up b35 9 (some q37)) 22), .int (iI 0), .int (iI 0), .int (iI 0), .int (iI 0), va_rf ((va_up b35 9 (some q37)) 23), va_rf ((va_up b35 9 (some q37)) 24), va_rf ((va_up b35 9 (some q37)) 25), va_rf ((va_up b35 9 (some q37)) 26)]) rfl d_Mo_init_81 ?_
  refine g_abs (X := fun M_ => ∃ b_ : Nat → Option Nat, MI tys M_ m b_ 10 0 0 0 0 0 0 0 0 0 0) ⟨_, MI_s hI36 hq37 rfl⟩ (fun M38 hI40 => ?_)
  obtain ⟨b39, hI40⟩ := hI40
  refine g_aload_n C d_Mo_init_84 0 rfl ?_
  refine g_bipush C d_Mo_init_85 (by decide) ?_
  refine g_newI C 0 hT0 40 ac_int ⟨by first | rfl | omega, by decide⟩ ⟨Nat.le_of_ble_eq_true rfl, Nat.le_of_ble_eq_true rfl⟩ d_Mo_init_87 (fun q41 hq41 => ?_)
  refine g_putF C hin p_Mo_40 ((wd_up_n (ne_new hq41 hI40.1)).trans hI40.1) rfl rfl (Nat.le_of_ble_eq_true rfl) (fs' := [.int (iI 0), .int (iI 0), .int (iI 0), va_rf ((va_up b39 10 (some q41)) 0), va_rf ((va_up b39 10 (some q41)) 1), va_rf ((va_up b39 10 (some q41)) 2), .int (iI 0), va_rf ((va_up b39 10 (some q41)) 3), va_rf ((va_up b39 10 (some q41)) 4), va_rf ((va_up b39 10 (some q41)) 5), va_rf ((va_up b39 10 (some q41)) 6), va_rf ((va_up b39 10 (some q41)) 7), va_rf ((va_up b39 10 (some q41)) 8), .int (iI 0), va_rf ((va_up b39 10 (some q41)) 9), va_rf ((va_up b39 10 (some q41)) 10), va_rf ((va_up b39 10 (some q41)) 11), va_rf ((va_up b39 10 (some q41)) 12), va_rf ((va_up b39 10 (some q41)) 13), va_rf ((va_up b39 10 (some q41)) 14), va_rf ((va_up b39 10 (some q41)) 15), va_rf ((va_up b39 10 (some q41)) 16), va_rf ((va_up b39 10 (some q41)) 17), va_rf ((va_up b39 10 (some q41)) 18), .int (iI 0), va_rf ((va_up b39 10 (some q41)) 19), va_rf ((va_up b39 10 (some q41)) 20), va_rf ((va_up b39 10 (some q41)) 21), va_rf ((va_up b39 10 (some q41)) 22), .int (iI 0), .int (iI 0), .int (iI 0), .int (iI 0), va_rf ((va_up b39 10 (some q41)) 23), va_rf ((va_up b39 10 (some q41)) 24), va_rf ((va_up b39 10 (some q41)) 25), va_rf ((va_up b39 10 (some q41)) 26)]) rfl d_Mo_init_89 ?_
  refine g_abs (X := fun M_ => ∃ b_ : Nat → Option Nat, MI tys M_ m b_ 11 0 0 0 0 0 0 0 0 0 0) ⟨_, MI_s hI40 hq41 rfl⟩ (fun M42 hI44 => ?_)
  obtain ⟨b43, hI44⟩ := hI44
  refine g_aload_n C d_Mo_init_92 0 rfl ?_
  refine g_bipush C d_Mo_init_93 (by decide) ?_
  refine g_newI C 0 hT0 40 ac_int ⟨by first | rfl | omega, by decide⟩ ⟨Nat.le_of_ble_eq_true rfl, Nat.le_of_ble_eq_true rfl⟩ d_Mo_init_95 (fun q45 hq45 => ?_)
  refine g_putF C hin p_Mo_43 ((wd_up_n (ne_new hq45 hI44.1)).trans hI44.1) rfl rfl (Nat.le_of_ble_eq_true rfl) (fs' := [.int (iI 0), .int (iI 0), .int (iI 0), va_rf ((va_up b43 11 (some q45)) 0), va_rf ((va_up b43 11 (some q45)) 1), va_rf ((va_up b43 11 (some q45)) 2), .int (iI 0), va_rf ((va_up b43 11 (some q45)) 3), va_rf ((va_up b43 11 (some q45)) 4), va_rf ((va_up b43 11 (some q45)) 5), va_rf ((va_up b43 11 (some q45)) 6), va_rf ((va_up b43 11 (some q45)) 7), va_rf ((va_up b43 11 (some q45)) 8), .int (iI 0), va_rf ((va_up b43 11 (some q45)) 9), va_rf ((va_up b43 11 (some q45)) 10), va_rf ((va_up b43 11 (some q45)) 11), va_rf ((va_up b43 11 (some q45)) 12), va_rf ((va_up b43 11 (some q45)) 13), va_rf ((va_up b43 11 (some q45)) 14), va_rf ((va_up b43 11 (some q45)) 15), va_rf ((va_up b43 11 (some q45)) 16), va_rf ((va_up b43 11 (some q45)) 17), va_rf ((va_up b43 11 (some q45)) 18), .int (iI 0), va_rf ((va_up b43 11 (some q45)) 19), va_rf ((va_up b43 11 (some q45)) 20), va_rf ((va_up b43 11 (some q45)) 21), va_rf ((va_up b43 11 (some q45)) 22), .int (iI 0), .int (iI 0), .int (iI 0), .int (iI 0), va_rf ((va_up b43 11 (some q45)) 23), va_rf ((va_up b43 11 (some q45)) 24), va_rf ((va_up b43 11 (some q45)) 25), va_rf ((va_up b43 11 (some q45)) 26)]) rfl d_Mo_init_97 ?_
  refine g_abs (X := fun M_ => ∃ b_ : Nat → Option Nat, MI tys M_ m b_ 12 0 0 0 0 0 0 0 0 0 0) ⟨_, MI_s hI44 hq45 rfl⟩ (fun M46 hI48 => ?_)
  obtain ⟨b47, hI48⟩ := hI48
  refine g_aload_n C d_Mo_init_100 0 rfl ?_
  refine g_bipush C d_Mo_init_101 (by decide) ?_
  refine g_newI C 0 hT0 40 ac_int ⟨by first | rfl | omega, by decide⟩ ⟨Nat.le_of_ble_eq_true rfl, Nat.le_of_ble_eq_true rfl⟩ d_Mo_init_103 (fun q49 hq49 => ?_)
  refine g_putF C hin p_Mo_46 ((wd_up_n (ne_new hq49 hI48.1)).trans hI48.1) rfl rfl (Nat.le_of_ble_eq_true rfl) (fs' := [.int (iI 0), .int (iI 0), .int (iI 0), va_rf ((va_up b47 12 (some q49)) 0), va_rf ((va_up b47 12 (some q49)) 1), va_rf ((va_up b47 12 (some q49)) 2), .int (iI 0), va_rf ((va_up b47 12 (some q49)) 3), va_rf ((va_up b47 12 (some q49)) 4), va_rf ((va_up b47 12 (some q49)) 5), va_rf ((va_up b47 12 (some q49)) 6), va_rf ((va_up b47 12 (some q49)) 7), va_rf ((va_up b47 12 (some q49)) 8), .int (iI 0), va_rf ((va_up b47 12 (some q49)) 9), va_rf ((va_up b47 12 (some q49)) 10), va_rf ((va_up b47 12 (some q49)) 11), va_rf ((va_up b47 12 (some q49)) 12), va_rf ((va_up b47 12 (some q49)) 13), va_rf ((va_up b47 12 (some q49)) 14), va_rf ((va_up b47 12 (some q49)) 15), va_rf ((va_up b47 12 (some q49)) 16), va_rf ((va_up b47 12 (some q49)) 17), va_rf ((va_up b47 12 (some q49)) 18), .int (iI 0), va_rf ((va_up b47 12 (some q49)) 19), va_rf ((va_up b47 12 (some q49)) 20), va_rf ((va_up b47 12 (some q49)) 21), va_rf ((va_up b47 12 (some q49)) 22), .int (iI 0), .int (iI 0), .int (iI 0), .int (iI 0), va_rf ((va_up b47 12 (some q49)) 23), va_rf ((va_up b47 12 (some q49)) 24), va_rf ((va_up b47 12 (some q49)) 25), va_rf ((va_up b47 12 (some q49)) 26)]) rfl d_Mo_init_105 ?_
  refine g_abs (X := fun M_ => ∃ b_ : Nat → Option Nat, MI tys M_ m b_ 13 0 0 0 0 0 0 0 0 0 0) ⟨_, MI_s hI48 hq49 rfl⟩ (fun M50 hI52 => ?_)
  obtain ⟨b51, hI52⟩ := hI52
  refine g_aload_n C d_Mo_init_108 0 rfl ?_
  refine g_bipush C d_Mo_init_109 (by decide) ?_
  refine g_newI C 0 hT0 40 ac_int ⟨by first | rfl | omega, by decide⟩ ⟨Nat.le_of_ble_eq_true rfl, Nat.le_of_ble_eq_true rfl⟩ d_Mo_init_111 (fun q53 hq53 => ?_)
  refine g_putF C hin p_Mo_49 ((wd_up_n (ne_new hq53 hI52.1)).trans hI52.1) rfl rfl (Nat.le_of_ble_eq_true rfl) (fs' := [.int (iI 0), .int (iI 0), .int (iI 0), va_rf ((va_up b51 13 (some q53)) 0), va_rf ((va_up b51 13 (some q53)) 1), va_rf ((va_up b51 13 (some q53)) 2), .int (iI 0), va_rf ((va_up b51 13 (some q53)) 3), va_rf ((va_up b51 13 (some q53)) 4), va_rf ((va_up b51 13 (some q53)) 5), va_rf ((va_up b51 13 (some q53)) 6), va_rf ((va_up b51 13 (some q53)) 7), va_rf ((va_up b51 13 (some q53)) 8), .int (iI 0), va_rf ((va_up b51 13 (some q53)) 9), va_rf ((va_up b51 13 (some q53)) 10), va_rf ((va_up b51 13 (some q53)) 11), va_rf ((va_up b51 13 (some q53)) 12), va_rf ((va_up b51 13 (some q53)) 13), va_rf ((va_up b51 13 (some q53)) 14), va_rf ((va_up b51 13 (some q53)) 15), va_rf ((va_up b51 13 (some q53)) 16), va_rf ((va_up b51 13 (some q53)) 17), va_rf ((va_up b51 13 (some q53)) 18), .int (iI 0), va_rf ((va_up b51 13 (some q53)) 19), va_rf ((va_up b51 13 (some q53)) 20), va_rf ((va_up b51 13 (some q53)) 21), va_rf ((va_up b51 13 (some q53)) 22), .int (iI 0), .int (iI 0), .int (iI 0), .int (iI 0), va_rf ((va_up b51 13 (some q53)) 23), va_rf ((va_up b51 13 (some q53)) 24), va_rf ((va_up b51 13 (some q53)) 25), va_rf ((va_up b51 13 (some q53)) 26)]) rfl d_Mo_init_113 ?_
  refine g_abs (X := fun M_ => ∃ b_ : Nat → Option Nat, MI tys M_ m b_ 14 0 0 0 0 0 0 0 0 0 0) ⟨_, MI_s hI52 hq53 rfl⟩ (fun M54 hI56 => ?_)
  obtain ⟨b55, hI56⟩ := hI56
  refine g_aload_n C d_Mo_init_116 0 rfl ?_
  refine g_bipush C d_Mo_init_117 (by decide) ?_
  refine g_newI C 0 hT0 40 ac_int ⟨by first | rfl | omega, by decide⟩ ⟨Nat.le_of_ble_eq_true rfl, Nat.le_of_ble_eq_true rfl⟩ d_Mo_init_119 (fun q57 hq57 => ?_)
  refine g_putF C hin p_Mo_52 ((wd_up_n (ne_new hq57 hI56.1)).trans hI56.1) rfl rfl (Nat.le_of_ble_eq_true rfl) (fs' := [.int (iI 0), .int (iI 0), .int (iI 0), va_rf ((va_up b55 14 (some q57)) 0), va_rf ((va_up b55 14 (some q57)) 1), va_rf ((va_up b55 14 (some q57)) 2), .int (iI 0), va_rf ((va_up b55 14 (some q57)) 3), va_rf ((va_up b55 14 (some q57)) 4), va_rf ((va_up b55 14 (some q57)) 5), va_rf ((va_up b55 14 (some q57)) 6), va_rf ((va_up b55 14 (some q57)) 7), va_rf ((va_up b55 14 (some q57)) 8), .int (iI 0), va_rf ((va_up b55 14 (some q57)) 9), va_rf ((va_up b55 14 (some q57)) 10), va_rf ((va_up b55 14 (some q57)) 11), va_rf ((va_up b55 14 (some q57)) 12), va_rf ((va_up b55 14 (some q57)) 13), va_rf ((va_up b55 14 (some q57)) 14), va_rf ((va_up b55 14 (some q57)) 15), va_rf ((va_up b55 14 (some q57)) 16), va_rf ((va_up b55 14 (some q57)) 17), va_rf ((va_up b55 14 (some q57)) 18), .int (iI 0), va_rf ((va_up b55 14 (some q57)) 19), va_rf ((va_up b55 14 (some q57)) 20), va_rf ((va_up b55 14 (some q57)) 21), va_rf ((va_up b55 14 (some q57)) 22), .int (iI 0), .int (iI 0), .int (iI 0), .int (iI 0), va_rf ((va_up b55 14 (some q57)) 23), va_rf ((va_up b55 14 (some q57)) 24), va_rf ((va_up b55 14 (some q57)) 25), va_rf ((va_up b55 14 (some q57)) 26)]) rfl d_Mo_init_121 ?_
  refine g_abs (X := fun M_ => ∃ b_ : Nat → Option Nat, MI tys M_ m b_ 15 0 0 0 0 0 0 0 0 0 0) ⟨_, MI_s hI56 hq57 rfl⟩ (fun M58 hI60 => ?_)
  obtain ⟨b59, hI60⟩ := hI60
  refine g_aload_n C d_Mo_init_124 0 rfl ?_
  refine g_bipush C d_Mo_init_125 (by decide) ?_
  refine g_newI C 0 hT0 40 ac_int ⟨by first | rfl | omega, by decide⟩ ⟨Nat.le_of_ble_eq_true rfl, Nat.le_of_ble_eq_true rfl⟩ d_Mo_init_127 (fun q61 hq61 => ?_)
  refine g_putF C hin p_Mo_55 ((wd_up_n (ne_new hq61 hI60.1)).trans hI60.1) rfl rfl (Nat.le_of_ble_eq_true rfl) (fs' := [.int (iI 0), .int (iI 0), .int (iI 0), va_rf ((va_up b59 15 (some q61)) 0), va_rf ((va_up b59 15 (some q61)) 1), va_rf ((va_up b59 15 (some q61)) 2), .int (iI 0), va_rf ((va_up b59 15 (some q61)) 3), va_rf ((va_up b59 15 (some q61)) 4), va_rf ((va_up b59 15 (some q61)) 5), va_rf ((va_up b59 15 (some q61)) 6), va_rf ((va_up b59 15 (some q61)) 7), va_rf ((va_up b59 15 (some q61)) 8), .int (iI 0), va_rf ((va_up b59 15 (some q61)) 9), va_rf ((va_up b59 15 (some q61)) 10), va_rf ((va_up b59 15 (some q61)) 11), va_rf ((va_up b59 15 (some q61)) 12), va_rf ((va_up b59 15 (some q61)) 13), va_rf ((va_up b59 15 (some q61)) 14), va_rf ((va_up b59 15 (some q61)) 15), va_rf ((va_up b59 15 (some q61)) 16), va_rf ((va_up b59 15 (some q61)) 17), va_rf ((va_up b59 15 (some q61)) 18), .int (iI 0), va_rf ((va_up b59 15 (some q61)) 19), va_rf ((va_up b59 15 (some q61)) 20), va_rf ((va_up b59 15 (some q61)) 21), va_rf ((va_up b59 15 (some q61)) 22), .int (iI 0), .int (iI 0), .int (iI 0), .int (iI 0), va_rf ((va_up b59 15 (some q61)) 23), va_rf ((va_up b59 15 (some q61)) 24), va_rf ((va_up b59 15 (some q61)) 25), va_rf ((va_up b59 15 (some q61)) 26)]) rfl d_Mo_init_129 ?_
  refine g_abs (X := fun M_ => ∃ b_ : Nat → Option Nat, MI tys M_ m b_ 16 0 0 0 0 0 0 0 0 0 0) ⟨_, MI_s hI60 hq61 rfl⟩ (fun M62 hI64 => ?_)
  obtain ⟨b63, hI64⟩ := hI64
  refine g_aload_n C d_Mo_init_132 0 rfl ?_
  refine g_bipush C d_Mo_init_133 (by decide) ?_
  refine g_newI C 0 hT0 40 ac_int ⟨by first | rfl | omega, by decide⟩ ⟨Nat.le_of_ble_eq_true rfl, Nat.le_of_ble_eq_true rfl⟩ d_Mo_init_135 (fun q65 hq65 => ?_)
  refine g_putF C hin p_Mo_58 ((wd_up_n (ne_new hq65 hI64.1)).trans hI64.1) rfl rfl (Nat.le_of_ble_eq_true rfl) (fs' := [.int (iI 0), .int (iI 0), .int (iI 0), va_rf ((va_up b63 16 (some q65)) 0), va_rf ((va_up b63 16 (some q65)) 1), va_rf ((va_up b63 16 (some q65)) 2), .int (iI 0), va_rf ((va_up b63 16 (some q65)) 3), va_rf ((va_up b63 16 (some q65)) 4), va_rf ((va_up b63 16 (some q65)) 5), va_rf ((va_up b63 16 (some q65)) 6), va_rf ((va_up b63 16 (some q65)) 7), va_rf ((va_up b63 16 (some q65)) 8), .int (iI 0), va_rf ((va_up b63 16 (some q65)) 9), va_rf ((va_up b63 16 (some q65)) 10), va_rf ((va_up b63 16 (some q65)) 11), va_rf ((va_up b63 16 (some q65)) 12), va_rf ((va_up b63 16 (some q65)) 13), va_rf ((va_up b63 16 (some q65)) 14), va_rf ((va_up b63 16 (some q65)) 15), va_rf ((va_up b63 16 (some q65)) 16), va_rf ((va_up b63 16 (some q65)) 17), va_rf ((va_up b63 16 (some q65)) 18), .int (iI 0), va_rf ((va_up b63 16 (some q65)) 19), va_rf ((va_up b63 16 (some q65)) 20), va_rf ((va_up b63 16 (some q65)) 21), va_rf ((va_up b63 16 (some q65)) 22), .int (iI 0), .int (iI 0), .int (iI 0), .int (iI 0), va_rf ((va_up b63 16 (some q65)) 23), va_rf ((va_up b63 16 (some q65)) 24), va_rf ((va_up b63 16 (some q65)) 25), va_rf ((va_up b63 16 (some q65)) 26)]) rfl d_Mo_init_137 ?_
  refine g_abs (X := fun M_ => ∃ b_ : Nat → Option Nat, MI tys M_ m b_ 17 0 0 0 0 0 0 0 0 0 0) ⟨_, MI_s hI64 hq65 rfl⟩ (fun M66 hI68 => ?_)
  obtain ⟨b67, hI68⟩ := hI68
  refine g_aload_n C d_Mo_init_140 0 rfl ?_
  refine g_bipush C d_Mo_init_141 (by decide) ?_
  refine g_newI C 0 hT0 40 ac_int ⟨by first | rfl | omega, by decide⟩ ⟨Nat.le_of_ble_eq_true rfl, Nat.le_of_ble_eq_true rfl⟩ d_Mo_init_143 (fun q69 hq69 => ?_)
  refine g_putF C hin p_Mo_61 ((wd_up_n (ne_new hq69 hI68.1)).trans hI68.1) rfl rfl (Nat.le_of_ble_eq_true rfl) (fs' := [.int (iI 0), .int (iI 0), .int (iI 0), va_rf ((va_up b67 17 (some q69)) 0), va_rf ((va_up b67 17 (some q69)) 1), va_rf ((va_up b67 17 (some q69)) 2), .int (iI 0), va_rf ((va_up b67 17 (some q69)) 3), va_rf ((va_up b67 17 (some q69)) 4), va_rf ((va_up b67 17 (some q69)) 5), va_rf ((va_up b67 17 (some q69)) 6), va_rf ((va_up b67 17 (some q69)) 7), va_rf ((va_up b67 17 (some q69)) 8), .int (iI 0), va_rf ((va_up b67 17 (some q69)) 9), va_rf ((va_up b67 17 (some q69)) 10), va_rf ((va_up b67 17 (some q69)) 11), va_rf ((va_up b67 17 (some q69)) 12), va_rf ((va_up b67 17 (some q69)) 13), va_rf ((va_up b67 17 (some q69)) 14), va_rf ((va_up b67 17 (some q69)) 15), va_rf ((va_up b67 17 (some q69)) 16), va_rf ((va_up b67 17 (some q69)) 17), va_rf ((va_up b67 17 (some q69)) 18), .int (iI 0), va_rf ((va_up b67 17 (some q69)) 19), va_rf ((va_up b67 17 (some q69)) 20), va_rf ((va_up b67 17 (some q69)) 21), va_rf ((va_up b67 17 (some q69)) 22), .int (iI 0), .int (iI 0), .int (iI 0), .int (iI 0), va_rf ((va_up b67 17 (some q69)) 23), va_rf ((va_up b67 17 (some q69)) 24), va_rf ((va_up b67 17 (some q69)) 25), va_rf ((va_up b67 17 (some q69)) 26)]) rfl d_Mo_init_145 ?_
  refine g_abs (X := fun M_ => ∃ b_ : Nat → Option Nat, MI tys M_ m b_ 18 0 0 0 0 0 0 0 0 0 0) ⟨_, MI_s hI68 hq69 rfl⟩ (fun M70 hI72 => ?_)
  obtain ⟨b71, hI72⟩ := hI72
  refine g_aload_n C d_Mo_init_148 0 rfl ?_
  refine g_bipush C d_Mo_init_149 (by decide) ?_
  refine g_newI C 0 hT0 40 ac_int ⟨by first | rfl | omega, by decide⟩ ⟨Nat.le_of_ble_eq_true rfl, Nat.le_of_ble_eq_true rfl⟩ d_Mo_init_151 (fun q73 hq73 => ?_)
  refine g_putF C hin p_Mo_64 ((wd_up_n (ne_new hq73 hI72.1)).trans hI72.1) rfl rfl (Nat.le_of_ble_eq_true rfl) (fs' := [.int (iI 0), .int (iI 0), .int (iI 0), va_rf ((va_up b71 18 (some q73)) 0), va_rf ((va_up b71 18 (some q73)) 1), va_rf ((va_up b71 18 (some q73)) 2), .int (iI 0), va_rf ((va_up b71 18 (some q73)) 3), va_rf ((va_up b71 18 (some q73)) 4), va_rf ((va_up b71 18 (some q73)) 5), va_rf ((va_up b71 18 (some q73)) 6), va_rf ((va_up b71 18 (some q73)) 7), va_rf ((va_up b71 18 (some q73)) 8), .int (iI 0), va_rf ((va_up b71 18 (some q73)) 9), va_rf ((va_up b71 18 (some q73)) 10), va_rf ((va_up b71 18 (some q73)) 11), va_rf ((va_up b71 18 (some q73)) 12), va_rf ((va_up b71 18 (some q73)) 13), va_rf ((va_up b71 18 (some q73)) 14), va_rf ((va_up b71 18 (some q73)) 15), va_rf ((va_up b71 18 (some q73)) 16), va_rf ((va_up b71 18 (some q73)) 17), va_rf ((va_up b71 18 (some q73)) 18), .int (iI 0), va_rf ((va_up b71 18 (some q73)) 19), va_rf ((va_up b71 18 (some q73)) 20), va_rf ((va_up b71 18 (some q73)) 21), va_rf ((va_up b71 18 (some q73)) 22), .int (iI 0), .int (iI 0), .int (iI 0), .int (iI 0), va_rf ((va_up b71 18 (some q73)) 23), va_rf ((va_up b71 18 (some q73)) 24), va_rf ((va_up b71 18 (some q73)) 25), va_rf ((va_up b71 18 (some q73)) 26)]) rfl d_Mo_init_153 ?_
  refine g_abs (X := fun M_ => ∃ b_ : Nat → Option Nat, MI tys M_ m b_ 19 0 0 0 0 0 0 0 0 0 0) ⟨_, MI_s hI72 hq73 rfl⟩ (fun M74 hI76 => ?_)
  obtain ⟨b75, hI76⟩ := hI76
  refine g_aload_n C d_Mo_init_156 0 rfl ?_
  refine g_bipush C d_Mo_init_157 (by decide) ?_
  refine g_newI C 0 hT0 8 ac_int ⟨by first | rfl | omega, by decide⟩ ⟨Nat.le_of_ble_eq_true rfl, Nat.le_of_ble_eq_true rfl⟩ d_Mo_init_159 (fun q77 hq77 => ?_)
  refine g_putF C hin p_Mo_67 ((wd_up_n (ne_new hq77 hI76.1)).trans hI76.1) rfl rfl (Nat.le_of_ble_eq_true rfl) (fs' := [.int (iI 0), .int (iI 0), .int (iI 0), va_rf ((va_up b75 19 (some q77)) 0), va_rf ((va_up b75 19 (some q77)) 1), va_rf ((va_up b75 19 (some q77)) 2), .int (iI 0), va_rf ((va_up b75 19 (some q77)) 3), va_rf ((va_up b75 19 (some q77)) 4), va_rf ((va_up b75 19 (some q77)) 5), va_rf ((va_up b75 19 (some q77)) 6), va_rf ((va_up b75 19 (some q77)) 7), va_rf ((va_up b75 19 (some q77)) 8), .int (iI 0), va_rf ((va_up b75 19 (some q77)) 9), va_rf ((va_up b75 19 (some q77)) 10), va_rf ((va_up b75 19 (some q77)) 11), va_rf ((va_up b75 19 (some q77)) 12), va_rf ((va_up b75 19 (some q77)) 13), va_rf ((va_up b75 19 (some q77)) 14), va_rf ((va_up b75 19 (some q77)) 15), va_rf ((va_up b75 19 (some q77)) 16), va_rf ((va_up b75 19 (some q77)) 17), va_rf ((va_up b75 19 (some q77)) 18), .int (iI 0), va_rf ((va_up b75 19 (some q77)) 19), va_rf ((va_up b75 19 (some q77)) 20), va_rf ((va_up b75 19 (some q77)) 21), va_rf ((va_up b75 19 (some q77)) 22), .int (iI 0), .int (iI 0), .int (iI 0), .int (iI 0), va_rf ((va_up b75 19 (some q77)) 23), va_rf ((va_up b75 19 (some q77)) 24), va_rf ((va_up b75 19 (some q77)) 25), va_rf ((va_up b75 19 (some q77)) 26)]) rfl d_Mo_init_161 ?_
  refine g_abs (X := fun M_ => ∃ b_ : Nat → Option Nat, MI tys M_ m b_ 20 0 0 0 0 0 0 0 0 0 0) ⟨_, MI_s hI76 hq77 rfl⟩ (fun M78 hI80 => ?_)
  obtain ⟨b79, hI80⟩ := hI80
  refine g_aload_n C d_Mo_init_164 0 rfl ?_
  refine g_bipush C d_Mo_init_165 (by decide) ?_
  refine g_newI C 0 hT0 8 ac_int ⟨by first | rfl | omega, by decide⟩ ⟨Nat.le_of_ble_eq_true rfl, Nat.le_of_ble_eq_true rfl⟩ d_Mo_init_167 (fun q81 hq81 => ?_)
  refine g_putF C hin p_Mo_70 ((wd_up_n (ne_new hq81 hI80.1)).trans hI80.1) rfl rfl (Nat.le_of_ble_eq_true rfl) (fs' := [.int (iI 0), .int (iI 0), .int (iI 0), va_rf ((va_up b79 20 (some q81)) 0), va_rf ((va_up b79 20 (some q81)) 1), va_rf ((va_up b79 20 (some q81)) 2), .int (iI 0), va_rf ((va_up b79 20 (some q81)) 3), va_rf ((va_up b79 20 (some q81)) 4), va_rf ((va_up b79 20 (some q81)) 5), va_rf ((va_up b79 20 (some q81)) 6), va_rf ((va_up b79 20 (some q81)) 7), va_rf ((va_up b79 20 (some q81)) 8), .int (iI 0), va_rf ((va_up b79 20 (some q81)) 9), va_rf ((va_up b79 20 (some q81)) 10), va_rf ((va_up b79 20 (some q81)) 11), va_rf ((va_up b79 20 (some q81)) 12), va_rf ((va_up b79 20 (some q81)) 13), va_rf ((va_up b79 20 (some q81)) 14), va_rf ((va_up b79 20 (some q81)) 15), va_rf ((va_up b79 20 (some q81)) 16), va_rf ((va_up b79 20 (some q81)) 17), va_rf ((va_up b79 20 (some q81)) 18), .int (iI 0), va_rf ((va_up b79 20 (some q81)) 19), va_rf ((va_up b79 20 (some q81)) 20), va_rf ((va_up b79 20 (some q81)) 21), va_rf ((va_up b79 20 (some q81)) 22), .int (iI 0), .int (iI 0), .int (iI 0), .int (iI 0), va_rf ((va_up b79 20 (some q81)) 23), va_rf ((va_up b79 20 (some q81)) 24), va_rf ((va_up b79 20 (some q81)) 25), va_rf ((va_up b79 20 (some q81)) 26)]) rfl d_Mo_init_169 ?_
  refine g_abs (X := fun M_ => ∃ b_ : Nat → Option Nat, MI tys M_ m b_ 21 0 0 0 0 0 0 0 0 0 0) ⟨_, MI_s hI80 hq81 rfl⟩ (fun M82 hI84 => ?_)
  obtain ⟨b83, hI84⟩ := hI84
  refine g_aload_n C d_Mo_init_172 0 rfl ?_
  refine g_bipush C d_Mo_init_173 (by decide) ?_
  refine g_newI C 0 hT0 8 ac_int ⟨by first | rfl | omega, by decide⟩ ⟨Nat.le_of_ble_eq_true rfl, Nat.le_of_ble_eq_true rfl⟩ d_Mo_init_175 (fun q85 hq85 => ?_)
  refine g_putF C hin p_Mo_73 ((wd_up_n (ne_new hq85 hI84.1)).trans hI84.1) rfl rfl (Nat.le_of_ble_eq_true rfl) (fs' := [.int (iI 0), .int (iI 0), .int (iI 0), va_rf ((va_up b83 21 (some q85)) 0), va_rf ((va_up b83 21 (some q85)) 1), va_rf ((va_up b83 21 (some q85)) 2), .int (iI 0), va_rf ((va_up b83 21 (some q85)) 3), va_rf ((va_up b83 21 (some q85)) 4), va_rf ((va_up b83 21 (some q85)) 5), va_rf ((va_up b83 21 (some q85)) 6), va_rf ((va_up b83 21 (some q85)) 7), va_rf ((va_up b83 21 (some q85)) 8), .int (iI 0), va_rf ((va_up b83 21 (some q85)) 9), va_rf ((va_up b83 21 (some q85)) 10), va_rf ((va_up b83 21 (some q85)) 11), va_rf ((va_up b83 21 (some q85)) 12), va_rf ((va_up b83 21 (some q85)) 13), va_rf ((va_up b83 21 (some q85)) 14), va_rf ((va_up b83 21 (some q85)) 15), va_rf ((va_up b83 21 (some q85)) 16), va_rf ((va_up b83 21 (some q85)) 17), va_rf ((va_up b83 21 (some q85)) 18), .int (iI 0), va_rf ((va_up b83 21 (some q85)) 19), va_rf ((va_up b83 21 (some q85)) 20), va_rf ((va_up b83 21 (some q85)) 21), va_rf ((va_up b83 21 (some q85)) 22), .int (iI 0), .int (iI 0), .int (iI 0), .int (iI 0), va_rf ((va_up b83 21 (some q85)) 23), va_rf ((va_up b83 21 (some q85)) 24), va_rf ((va_up b83 21 (some q85)) 25), va_rf ((va_up b83 21 (some q85)) 26)]) rfl d_Mo_init_177 ?_
  refine g_abs (X := fun M_ => ∃ b_ : Nat → Option Nat, MI tys M_ m b_ 22 0 0 0 0 0 0 0 0 0 0) ⟨_, MI_s hI84 hq85 rfl⟩ (fun M86 hI88 => ?_)
  obtain ⟨b87, hI88⟩ := hI88
  refine g_aload_n C d_Mo_init_180 0 rfl ?_
  refine g_iconst C d_Mo_init_181 ?_
  refine g_newI C 0 hT0 5 ac_int ⟨by first | rfl | omega, by decide⟩ ⟨Nat.le_of_ble_eq_true rfl, Nat.le_of_ble_eq_true rfl⟩ d_Mo_init_182 (fun q89 hq89 => ?_)
  refine g_putF C hin p_Mo_76 ((wd_up_n (ne_new hq89 hI88.1)).trans hI88.1) rfl rfl (Nat.le_of_ble_eq_true rfl) (fs' := [.int (iI 0), .int (iI 0), .int (iI 0), va_rf ((va_up b87 22 (some q89)) 0), va_rf ((va_up b87 22 (some q89)) 1), va_rf ((va_up b87 22 (some q89)) 2), .int (iI 0), va_rf ((va_up b87 22 (some q89)) 3), va_rf ((va_up b87 22 (some q89)) 4), va_rf ((va_up b87 22 (some q89)) 5), va_rf ((va_up b87 22 (some q89)) 6), va_rf ((va_up b87 22 (some q89)) 7), va_rf ((va_up b87 22 (some q89)) 8), .int (iI 0), va_rf ((va_up b87 22 (some q89)) 9), va_rf ((va_up b87 22 (some q89)) 10), va_rf ((va_up b87 22 (some q89)) 11), va_rf ((va_up b87 22 (some q89)) 12), va_rf ((va_up b87 22 (some q89)) 13), va_rf ((va_up b87 22 (some q89)) 14), va_rf ((va_up b87 22 (some q89)) 15), va_rf ((va_up b87 22 (some q89)) 16), va_rf ((va_up b87 22 (some q89)) 17), va_rf ((va_up b87 22 (some q89)) 18), .int (iI 0), va_rf ((va_up b87 22 (some q89)) 19), va_rf ((va_up b87 22 (some q89)) 20), va_rf ((va_up b87 22 (some q89)) 21), va_rf ((va_up b87 22 (some q89)) 22), .int (iI 0), .int (iI 0), .int (iI 0), .int (iI 0), va_rf ((va_up b87 22 (some q89)) 23), va_rf ((va_up b87 22 (some q89)) 24), va_rf ((va_up b87 22 (some q89)) 25), va_rf ((va_up b87 22 (some q89)) 26)]) rfl d_Mo_init_184 ?_
  refine g_abs (X := fun M_ => ∃ b_ : Nat → Option Nat, MI tys M_ m b_ 23 0 0 0 0 0 0 0 0 0 0) ⟨_, MI_s hI88 hq89 rfl⟩ (fun M90 hI92 => ?_)
  obtain ⟨b91, hI92⟩ := hI92
  refine g_aload_n C d_Mo_init_187 0 rfl ?_
  refine g_iconst C d_Mo_init_188 ?_
  refine g_put C p_Mo_79 hI92.1 rfl rfl (Nat.le_of_ble_eq_true rfl) (fs' := [.int (iI 0), .int (iI 0), .int (iI 0), va_rf (b91 0), va_rf (b91 1), va_rf (b91 2), .int (iI 0), va_rf (b91 3), va_rf (b91 4), va_rf (b91 5), va_rf (b91 6), va_rf (b91 7), va_rf (b91 8), .int (iI 0), va_rf (b91 9), va_rf (b91 10), va_rf (b91 11), va_rf (b91 12), va_rf (b91 13), va_rf (b91 14), va_rf (b91 15), va_rf (b91 16), va_rf (b91 17), va_rf (b91 18), .int (iI 0), va_rf (b91 19), va_rf (b91 20), va_rf (b91 21), va_rf (b91 22), .int (iI ((-1))), .int (iI 0), .int (iI 0), .int (iI 0), va_rf (b91 23), va_rf (b91 24), va_rf (b91 25), va_rf (b91 26)]) rfl d_Mo_init_189 ?_
  refine g_abs (X := fun M_ => ∃ b_ : Nat → Option Nat, MI tys M_ m b_ 23 0 0 0 0 0 0 ((-1)) 0 0 0) ⟨_, MI_V hI92 0 0 0 0 0 0 ((-1)) 0 0 0⟩ (fun M93 hI95 => ?_)
  obtain ⟨b94, hI95⟩ := hI95
  refine g_aload_n C d_Mo_init_192 0 rfl ?_
  refine g_bipush C d_Mo_init_193 (by decide) ?_
  refine g_newI C 0 hT0 20 ac_int ⟨by first | rfl | omega, by decide⟩ ⟨Nat.le_of_ble_eq_true rfl, Nat.le_of_ble_eq_true rfl⟩ d_Mo_init_195 (fun q96 hq96 => ?_)
  refine g_putF C hin p_Mo_83 ((wd_up_n (ne_new hq96 hI95.1)).trans hI95.1) rfl rfl (Nat.le_of_ble_eq_true rfl) (fs' := [.int (iI 0), .int (iI 0), .int (iI 0), va_rf ((va_up b94 23 (some q96)) 0), va_rf ((va_up b94 23 (some q96)) 1), va_rf ((va_up b94 23 (some q96)) 2), .int (iI 0), va_rf ((va_up b94 23 (some q96)) 3), va_rf ((va_up b94 23 (some q96)) 4), va_rf ((va_up b94 23 (some q96)) 5), va_rf ((va_up b94 23 (some q96)) 6), va_rf ((va_up b94 23 (some q96)) 7), va_rf ((va_up b94 23 (some q96)) 8), .int (iI 0), va_rf ((va_up b94 23 (some q96)) 9), va_rf ((va_up b94 23 (some q96)) 10), va_rf ((va_up b94 23 (some q96)) 11), va_rf ((va_up b94 23 (some q96)) 12), va_rf ((va_up b94 23 (some q96)) 13), va_rf ((va_up b94 23 (some q96)) 14), va_rf ((va_up b94 23 (some q96)) 15), va_rf ((va_up b94 23 (some q96)) 16), va_rf ((va_up b94 23 (some q96)) 17), va_rf ((va_up b94 23 (some q96)) 18), .int (iI 0), va_rf ((va_up b94 23 (some q96)) 19), va_rf ((va_up b94 23 (some q96)) 20), va_rf ((va_up b94 23 (some q96)) 21), va_rf ((va_up b94 23 (some q96)) 22), .int (iI ((-1))), .int (iI 0), .int (iI 0), .int (iI 0), va_rf ((va_up b94 23 (some q96)) 23), va_rf ((va_up b94 23 (some q96)) 24), va_rf ((va_up b94 23 (some q96)) 25), va_rf ((va_up b94 23 (some q96)) 26)]) rfl d_Mo_init_197 ?_
  refine g_abs (X := fun M_ => ∃ b_ : Nat → Option Nat, MI tys M_ m b_ 24 0 0 0 0 0 0 ((-1)) 0 0 0) ⟨_, MI_s hI95 hq96 rfl⟩ (fun M97 hI99 => ?_)
  obtain ⟨b98, hI99⟩ := hI99
  refine g_aload_n C d_Mo_init_200 0 rfl ?_
  refine g_bipush C d_Mo_init_201 (by decide) ?_
  refine g_newI C 0 hT0 7 ac_int ⟨by first | rfl | omega, by decide⟩ ⟨Nat.le_of_ble_eq_true rfl, Nat.le_of_ble_eq_true rfl⟩ d_Mo_init_203 (fun q100 hq100 => ?_)
  refine g_putF C hin p_Mo_86 ((wd_up_n (ne_new hq100 hI99.1)).trans hI99.1) rfl rfl (Nat.le_of_ble_eq_true rfl) (fs' := [.int (iI 0), .int (iI 0), .int (iI 0), va_rf ((va_up b98 24 (some q100)) 0), va_rf ((va_up b98 24 (some q100)) 1), va_rf ((va_up b98 24 (some q100)) 2), .int (iI 0), va_rf ((va_up b98 24 (some q100)) 3), va_rf ((va_up b98 24 (some q100)) 4), va_rf ((va_up b98 24 (some q100)) 5), va_rf ((va_up b98 24 (some q100)) 6), va_rf ((va_up b98 24 (some q100)) 7), va_rf ((va_up b98 24 (some q100)) 8), .int (iI 0), va_rf ((va_up b98 24 (some q100)) 9), va_rf ((va_up b98 24 (some q100)) 10), va_rf ((va_up b98 24 (some q100)) 11), va_rf ((va_up b98 24 (some q100)) 12), va_rf ((va_up b98 24 (some q100)) 13), va_rf ((va_up b98 24 (some q100)) 14), va_rf ((va_up b98 24 (some q100)) 15), va_rf ((va_up b98 24 (some q100)) 16), va_rf ((va_up b98 24 (some q100)) 17), va_rf ((va_up b98 24 (some q100)) 18), .int (iI 0), va_rf ((va_up b98 24 (some q100)) 19), va_rf ((va_up b98 24 (some q100)) 20), va_rf ((va_up b98 24 (some q100)) 21), va_rf ((va_up b98 24 (some q100)) 22), .int (iI ((-1))), .int (iI 0), .int (iI 0), .int (iI 0), va_rf ((va_up b98 24 (some q100)) 23), va_rf ((va_up b98 24 (some q100)) 24), va_rf ((va_up b98 24 (some q100)) 25), va_rf ((va_up b98 24 (some q100)) 26)]) rfl d_Mo_init_205 ?_
  refine g_abs (X := fun M_ => ∃ b_ : Nat → Option Nat, MI tys M_ m b_ 25 0 0 0 0 0 0 ((-1)) 0 0 0) ⟨_, MI_s hI99 hq100 rfl⟩ (fun M101 hI103 => ?_)
  obtain ⟨b102, hI103⟩ := hI103
  refine g_aload_n C d_Mo_init_208 0 rfl ?_
  refine g_bipush C d_Mo_init_209 (by decide) ?_
  refine g_newI C 0 hT0 7 ac_int ⟨by first | rfl | omega, by decide⟩ ⟨Nat.le_of_ble_eq_true rfl, Nat.le_of_ble_eq_true rfl⟩ d_Mo_init_211 (fun q104 hq104 => ?_)
  refine g_putF C hin p_Mo_89 ((wd_up_n (ne_new hq104 hI103.1)).trans hI103.1) rfl rfl (Nat.le_of_ble_eq_true rfl) (fs' := [.int (iI 0), .int (iI 0), .int (iI 0), va_rf ((va_up b102 25 (some q104)) 0), va_rf ((va_up b102 25 (some q104)) 1), va_rf ((va_up b102 25 (some q104)) 2), .int (iI 0), va_rf ((va_up b102 25 (some q104)) 3), va_rf ((va_up b102 25 (some q104)) 4), va_rf ((va_up b102 25 (some q104)) 5), va_rf ((va_up b102 25 (some q104)) 6), va_rf ((va_up b102 25 (some q104)) 7), va_rf ((va_up b102 25 (some q104)) 8), .int (iI 0), va_rf ((va_up b102 25 (some q104)) 9), va_rf ((va_up b102 25 (some q104)) 10), va_rf ((va_up b102 25 (some q104)) 11), va_rf ((va_up b102 25 (some q104)) 12), va_rf ((va_up b102 25 (some q104)) 13), va_rf ((va_up b102 25 (some q104)) 14), va_rf ((va_up b102 25 (some q104)) 15), va_rf ((va_up b102 25 (some q104)) 16), va_rf ((va_up b102 25 (some q104)) 17), va_rf ((va_up b102 25 (some q104)) 18), .int (iI 0), va_rf ((va_up b102 25 (some q104)) 19), va_rf ((va_up b102 25 (some q104)) 20), va_rf ((va_up b102 25 (some q104)) 21), va_rf ((va_up b102 25 (some q104)) 22), .int (iI ((-1))), .int (iI 0), .int (iI 0), .int (iI 0), va_rf ((va_up b102 25 (some q104)) 23), va_rf ((va_up b102 25 (some q104)) 24), va_rf ((va_up b102 25 (some q104)) 25), va_rf ((va_up b102 25 (some q104)) 26)]) rfl d_Mo_init_213 ?_
  refine g_abs (X := fun M_ => ∃ b_ : Nat → Option Nat, MI tys M_ m b_ 26 0 0 0 0 0 0 ((-1)) 0 0 0) ⟨_, MI_s hI103 hq104 rfl⟩ (fun M105 hI107 => ?_)
  obtain ⟨b106, hI107⟩ := hI107
  refine g_aload_n C d_Mo_init_216 0 rfl ?_
  refine g_bipush C d_Mo_init_217 (by decide) ?_
  refine g_newI C 0 hT0 7 ac_int ⟨by first | rfl | omega, by decide⟩ ⟨Nat.le_of_ble_eq_true rfl, Nat.le_of_ble_eq_true rfl⟩ d_Mo_init_219 (fun q108 hq108 => ?_)
  refine g_putF C hin p_Mo_92 ((wd_up_n (ne_new hq108 hI107.1)).trans hI107.1) rfl rfl (Nat.le_of_ble_eq_true rfl) (fs' := [.int (iI 0), .int (iI 0), .int (iI 0), va_rf ((va_up b106 26 (some q108)) 0), va_rf ((va_up b106 26 (some q108)) 1), va_rf ((va_up b106 26 (some q108)) 2), .int (iI 0), va_rf ((va_up b106 26 (some q108)) 3), va_rf ((va_up b106 26 (some q108)) 4), va_rf ((va_up b106 26 (some q108)) 5), va_rf ((va_up b106 26 (some q108)) 6), va_rf ((va_up b106 26 (some q108)) 7), va_rf ((va_up b106 26 (some q108)) 8), .int (iI 0), va_rf ((va_up b106 26 (some q108)) 9), va_rf ((va_up b106 26 (some q108)) 10), va_rf ((va_up b106 26 (some q108)) 11), va_rf ((va_up b106 26 (some q108)) 12), va_rf ((va_up b106 26 (some q108)) 13), va_rf ((va_up b106 26 (some q108)) 14), va_rf ((va_up b106 26 (some q108)) 15), va_rf ((va_up b106 26 (some q108)) 16), va_rf ((va_up b106 26 (some q108)) 17), va_rf ((va_up b106 26 (some q108)) 18), .int (iI 0), va_rf ((va_up b106 26 (some q108)) 19), va_rf ((va_up b106 26 (some q108)) 20), va_rf ((va_up b106 26 (some q108)) 21), va_rf ((va_up b106 26 (some q108)) 22), .int (iI ((-1))), .int (iI 0), .int (iI 0), .int (iI 0), va_rf ((va_up b106 26 (some q108)) 23), va_rf ((va_up b106 26 (some q108)) 24), va_rf ((va_up b106 26 (some q108)) 25), va_rf ((va_up b106 26 (some q108)) 26)]) rfl d_Mo_init_221 ?_
  refine g_abs (X := fun M_ => ∃ b_ : Nat → Option Nat, MI tys M_ m b_ 27 0 0 0 0 0 0 ((-1)) 0 0 0) ⟨_, MI_s hI107 hq108 rfl⟩ (fun M109 hI111 => ?_)
  obtain ⟨b110, hI111⟩ := hI111
  refine g_aload_n C d_Mo_init_224 0 rfl ?_
  refine g_iload_n C d_Mo_init_225 1 rfl ?_
  refine g_if_ge C 233 d_Mo_init_226 rfl (by omega) (fun c112 => ?_) (fun c112 => ?_)
  · refine g_iload_n C d_Mo_init_233 1 rfl ?_
    refine g_sipush C d_Mo_init_234 (by decide) ?_
    refine g_icmp_le C 246 d_Mo_init_237 rfl (by omega) (fun c113 => ?_) (fun c113 => ?_)
    · refine g_iload_n C d_Mo_init_246 1 rfl ?_
      refine g_putF C hin p_Mo_95 hI111.1 rfl rfl (Nat.le_of_ble_eq_true rfl) (fs' := [.int (iI 0), .int (iI z0), .int (iI 0), va_rf (b110 0), va_rf (b110 1), va_rf (b110 2), .int (iI 0), va_rf (b110 3), va_rf (b110 4), va_rf (b110 5), va_rf (b110 6), va_rf (b110 7), va_rf (b110 8), .int (iI 0), va_rf (b110 9), va_rf (b110 10), va_rf (b110 11), va_rf (b110 12), va_rf (b110 13), va_rf (b110 14), va_rf (b110 15), va_rf (b110 16), va_rf (b110 17), va_rf (b110 18), .int (iI 0), va_rf (b110 19), va_rf (b110 20), va_rf (b110 21), va_rf (b110 22), .int (iI ((-1))), .int (iI 0), .int (iI 0), .int (iI 0), va_rf (b110 23), va_rf (b110 24), va_rf (b110 25), va_rf (b110 26)]) rfl d_Mo_init_247 ?_
      refine g_abs (X := fun M_ => ∃ b_ : Nat → Option Nat, MI tys M_ m b_ 27 0 z0 0 0 0 0 ((-1)) 0 0 0) ⟨_, MI_V hI111 0 z0 0 0 0 0 ((-1)) 0 0 0⟩ (fun M114 hI116 => ?_)
      obtain ⟨b115, hI116⟩ := hI116
      exact g_vret C hr d_Mo_init_250 (by
          obtain ⟨a_, hA_⟩ := MI_end hI116
          exact RM_of (s := sNew (sRate z0)) (np := 0) (nl := 0) (nt := 0) (ns := 0) hA_ (by show _ = sRate z0; omega) rfl rfl rfl rfl rfl rfl rfl rfl rfl ⟨fun k_ hk_ => absurd hk_ (Nat.not_lt_zero k_), fun k_ hk_ => absurd hk_ (Nat.not_lt_zero k_), fun k_ hk_ => absurd hk_ (Nat.not_lt_zero k_), fun k_ _ => ⟨rfl, rfl, rfl⟩, fun k_ hk_ => absurd hk_ (Nat.not_lt_zero k_), fun k_ => rfl⟩ ⟨by decide, by decide, fun h_ => absurd rfl h_⟩)
    · refine g_sipush C d_Mo_init_240 (by decide) ?_
      refine g_goto C 247 d_Mo_init_243 rfl ?_
      refine g_putF C hin p_Mo_95 hI111.1 rfl rfl (Nat.le_of_ble_eq_true rfl) (fs' := [.int (iI 0), .int (iI 1000), .int (iI 0), va_rf (b110 0), va_rf (b110 1), va_rf (b110 2), .int (iI 0), va_rf (b110 3), va_rf (b110 4), va_rf (b110 5), va_rf (b110 6), va_rf (b110 7), va_rf (b110 8), .int (iI 0), va_rf (b110 9), va_rf (b110 10), va_rf (b110 11), va_rf (b110 12), va_rf (b110 13), va_rf (b110 14), va_rf (b110 15), va_rf (b110 16), va_rf (b110 17), va_rf (b110 18), .int (iI 0), va_rf (b110 19), va_rf (b110 20), va_rf (b110 21), va_rf (b110 22), .int (iI ((-1))), .int (iI 0), .int (iI 0), .int (iI 0), va_rf (b110 23), va_rf (b110 24), va_rf (b110 25), va_rf (b110 26)]) rfl d_Mo_init_247 ?_
      refine g_abs (X := fun M_ => ∃ b_ : Nat → Option Nat, MI tys M_ m b_ 27 0 1000 0 0 0 0 ((-1)) 0 0 0) ⟨_, MI_V hI111 0 1000 0 0 0 0 ((-1)) 0 0 0⟩ (fun M117 hI119 => ?_)
      obtain ⟨b118, hI119⟩ := hI119
      exact g_vret C hr d_Mo_init_250 (by
          obtain ⟨a_, hA_⟩ := MI_end hI119
          exact RM_of (s := sNew (sRate z0)) (np := 0) (nl := 0) (nt := 0) (ns := 0) hA_ (by show _ = sRate z0; omega) rfl rfl rfl rfl rfl rfl rfl rfl rfl ⟨fun k_ hk_ => absurd hk_ (Nat.not_lt_zero k_), fun k_ hk_ => absurd hk_ (Nat.not_lt_zero k_), fun k_ hk_ => absurd hk_ (Nat.not_lt_zero k_), fun k_ _ => ⟨rfl, rfl, rfl⟩, fun k_ hk_ => absurd hk_ (Nat.not_lt_zero k_), fun k_ => rfl⟩ ⟨by decide, by decide, fun h_ => absurd rfl h_⟩)
  · refine g_iconst C d_Mo_init_229 ?_
    refine g_goto C 247 d_Mo_init_230 rfl ?_
    refine g_putF C hin p_Mo_95 hI111.1 rfl rfl (Nat.le_of_ble_eq_true rfl) (fs' := [.int (iI 0), .int (iI 0), .int (iI 0), va_rf (b110 0), va_rf (b110 1), va_rf (b110 2), .int (iI 0), va_rf (b110 3), va_rf (b110 4), va_rf (b110 5), va_rf (b110 6), va_rf (b110 7), va_rf (b110 8), .int (iI 0), va_rf (b110 9), va_rf (b110 10), va_rf (b110 11), va_rf (b110 12), va_rf (b110 13), va_rf (b110 14), va_rf (b110 15), va_rf (b110 16), va_rf (b110 17), va_rf (b110 18), .int (iI 0), va_rf (b110 19), va_rf (b110 20), va_rf (b110 21), va_rf (b110 22), .int (iI ((-1))), .int (iI 0), .int (iI 0), .int (iI 0), va_rf (b110 23), va_rf (b110 24), va_rf (b110 25), va_rf (b110 26)]) rfl d_Mo_init_247 ?_
    refine g_abs (X := fun M_ => ∃ b_ : Nat → Option Nat, MI tys M_ m b_ 27 0 0 0 0 0 0 ((-1)) 0 0 0) ⟨_, MI_V hI111 0 0 0 0 0 0 ((-1)) 0 0 0⟩ (fun M120 hI122 => ?_)
    obtain ⟨b121, hI122⟩ := hI122
    exact g_vret C hr d_Mo_init_250 (by
        obtain ⟨a_, hA_⟩ := MI_end hI122
        exact RM_of (s := sNew (sRate z0)) (np := 0) (nl := 0) (nt := 0) (ns := 0) hA_ (by show _ = sRate z0; omega) rfl rfl rfl rfl rfl rfl rfl rfl rfl ⟨fun k_ hk_ => absurd hk_ (Nat.not_lt_zero k_), fun k_ hk_ => absurd hk_ (Nat.not_lt_zero k_), fun k_ hk_ => absurd hk_ (Nat.not_lt_zero k_), fun k_ _ => ⟨rfl, rfl, rfl⟩, fun k_ hk_ => absurd hk_ (Nat.not_lt_zero k_), fun k_ => rfl⟩ ⟨by decide, by decide, fun h_ => absurd rfl h_⟩)
set_option maxHeartbeats 4000000 in
set_option maxRecDepth 100000 in
theorem ct_Mo_place (l : Launch) (D : va_G) (tys : xK) (A : Nat → Prop) (M : Wm) (hT : tyOK tys) (m : Nat) (s : AS) (th : Int) (np nl nt ns : Nat) (hS : okS s np nl nt ns) (hTk : TOK s nl nt ns) (z1_ z2_ z3_ : Int) (hz1 : (-2147483648 ≤ z1_ ∧ z1_ < 2147483648)) (hz2 : (-2147483648 ≤ z2_ ∧ z2_ < 2147483648)) (hz3 : (-2147483648 ≤ z3_ ∧ z3_ < 2147483648))  (hRM : RM tys M m s th) : mT l y_Mo_place b_Mo_place 4 (some .int) { frames := 1, cells := 0, slots := 0, locals := 22 } D tys A [.ref m, .int (iI z1_), .int (iI z2_), .int (iI z3_)] M (qI D A (fun z M' => (((0 ≤ z1_ ∧ z1_ ≤ 30) ∧ (0 ≤ z2_ ∧ z2_ ≤ 100) ∧ (0 ≤ z3_ ∧ z3_ ≤ 100)) ∧ s 0 0 1 < 30 ∧ z = s 0 0 1 ∧ RM tys M' m (sPlace s z1_ z2_ z3_) 0) ∨ (¬ ((0 ≤ z1_ ∧ z1_ ≤ 30) ∧ (0 ≤ z2_ ∧ z2_ ≤ 100) ∧ (0 ≤ z3_ ∧ z3_ ≤ 100)) ∧ RM tys M' m s 1) ∨ (((0 ≤ z1_ ∧ z1_ ≤ 30) ∧ (0 ≤ z2_ ∧ z2_ ≤ 100) ∧ (0 ≤ z3_ ∧ z3_ ≤ 100)) ∧ 30 ≤ s 0 0 1 ∧ RM tys M' m s 2))) 0 0 := by
  refine met_of (own := R_Mo) (lv := [(0, .ref m), (1, .int (iI z1_)), (2, .int (iI z2_)), (3, .int (iI z3_))]) rfl (by decide) (Nat.le_of_ble_eq_true rfl) rfl ?_
  intro p_ e_ s_ m_ bl_ me_ c_ C hr hin
  have hT9 := hT
  obtain ⟨hT0, hT1, hT2, hT3, hT4, hT5, hT32, hT42, hT52, hT43, hT53, hT54⟩ := hT
  obtain ⟨a, f, v7, v8, v9, hM, hr9, ht9⟩ := RM_to hS hRM
  have hwho : -1 ≤ s 0 0 5 ∧ s 0 0 5 < (ns : Int) := by
    rcases hTk with ⟨h_, -⟩ | ⟨w_, cn_, dn_, h1_, h2_, -⟩ <;> omega
  obtain ⟨hv8, hv9, hvt⟩ := id ht9
  have hS0 := hS
  obtain ⟨⟨e1, e2, e3, e4⟩, ⟨b1_, b2_, b3_, b4_⟩, b5_, okp, oklf, okt, oku, oksp, okg, oku6⟩ := hS
  obtain ⟨rp, rl, rt, rz, re, rs⟩ := id hr9
  refine g_aload_n C d_Mo_place_0 0 rfl ?_
  refine g_iload_n C d_Mo_place_1 1 rfl ?_
  refine g_iconst C d_Mo_place_2 ?_
  refine g_bipush C d_Mo_place_3 (by decide) ?_
  refine g_calliP C (run_S C [.int (iI z1_), .int (iI 0), .int (iI 30)] k_Mo_101 (ct_Mo_in l D tys A M z1_ 0 30 (by omega)) ⟨rfl, rfl, Nat.le_of_ble_eq_true rfl, Nat.le_of_ble_eq_true rfl⟩ rfl rfl (Nat.le_of_ble_eq_true rfl) d_Mo_place_5 ⟨Nat.le_of_ble_eq_true rfl, Nat.le_of_ble_eq_true rfl⟩) (fun z1 hz1 => ?_)
  refine g_if_eq C 31 d_Mo_place_8 rfl (by omega) (fun c2 => ?_) (fun c2 => ?_)
  · refine g_iconst C d_Mo_place_31 ?_
    refine g_goto C 49 d_Mo_place_32 rfl ?_
    refine g_put C p_Mo_98 hM.1 rfl rfl (Nat.le_of_ble_eq_true rfl) (fs' := [.int (iI 1), .int (iI (s 0 0 0)), .int (iI ((np : Int))), .ref (a 0), .ref (a 1), .ref (a 2), .int (iI ((nl : Int))), .ref (a 3), .ref (a 4), .ref (a 5), .ref (a 6), .ref (a 7), .ref (a 8), .int (iI ((nt : Int))), .ref (a 9), .ref (a 10), .ref (a 11), .ref (a 12), .ref (a 13), .ref (a 14), .ref (a 15), .ref (a 16), .ref (a 17), .ref (a 18), .int (iI ((ns : Int))), .ref (a 19), .ref (a 20), .ref (a 21), .ref (a 22), .int (iI (s 0 0 5)), .int (iI v7), .int (iI v8), .int (iI v9), .ref (a 23), .ref (a 24), .ref (a 25), .ref (a 26)]) rfl d_Mo_place_49 ?_
    refine g_abs (X := fun M_ => MA tys M_ m a f 1 (s 0 0 0) ((np : Int)) ((nl : Int)) ((nt : Int)) ((ns : Int)) (s 0 0 5) v7 v8 v9) (MA_V hM 1 (s 0 0 0) ((np : Int)) ((nl : Int)) ((nt : Int)) ((ns : Int)) (s 0 0 5) v7 v8 v9) (fun M3 hM3 => ?_)
    refine g_aload_n C d_Mo_place_52 0 rfl ?_
    refine g_get C f_Mo_98 hM3.1 rfl d_Mo_place_53 ?_
    refine g_if_le C 61 d_Mo_place_56 rfl (by omega) (fun c4 => ?_) (fun c4 => ?_)
    · exact absurd c4 (by decide)
    · refine g_iconst C d_Mo_place_59 ?_
      exact g_iret C hr d_Mo_place_60 (Or.inr (Or.inl ⟨by omega, RM_of hM3 rfl e1.symm e2.symm e3.symm e4.symm rfl e1 e2 e3 e4 hr9 ht9⟩))
  · refine g_iload_n C d_Mo_place_11 2 rfl ?_
    refine g_iconst C d_Mo_place_12 ?_
    refine g_bipush C d_Mo_place_13 (by decide) ?_
    refine g_calliP C (run_S C [.int (iI z2_), .int (iI 0), .int (iI 100)] k_Mo_101 (ct_Mo_in l D tys A M z2_ 0 100 (by omega)) ⟨rfl, rfl, Nat.le_of_ble_eq_true rfl, Nat.le_of_ble_eq_true rfl⟩ rfl rfl (Nat.le_of_ble_eq_true rfl) d_Mo_place_15 ⟨Nat.le_of_ble_eq_true rfl, Nat.le_of_ble_eq_true rfl⟩) (fun z5 hz5 => ?_)
    refine g_if_eq C 31 d_Mo_place_18 rfl (by omega) (fun c6 => ?_) (fun c6 => ?_)
    · refine g_iconst C d_Mo_place_31 ?_
      refine g_goto C 49 d_Mo_place_32 rfl ?_
      refine g_put C p_Mo_98 hM.1 rfl rfl (Nat.le_of_ble_eq_true rfl) (fs' := [.int (iI 1), .int (iI (s 0 0 0)), .int (iI ((np : Int))), .ref (a 0), .ref (a 1), .ref (a 2), .int (iI ((nl : Int))), .ref (a 3), .ref (a 4), .ref (a 5), .ref (a 6), .ref (a 7), .ref (a 8), .int (iI ((nt : Int))), .ref (a 9), .ref (a 10), .ref (a 11), .ref (a 12), .ref (a 13), .ref (a 14), .ref (a 15), .ref (a 16), .ref (a 17), .ref (a 18), .int (iI ((ns : Int))), .ref (a 19), .ref (a 20), .ref (a 21), .ref (a 22), .int (iI (s 0 0 5)), .int (iI v7), .int (iI v8), .int (iI v9), .ref (a 23), .ref (a 24), .ref (a 25), .ref (a 26)]) rfl d_Mo_place_49 ?_
      refine g_abs (X := fun M_ => MA tys M_ m a f 1 (s 0 0 0) ((np : Int)) ((nl : Int)) ((nt : Int)) ((ns : Int)) (s 0 0 5) v7 v8 v9) (MA_V hM 1 (s 0 0 0) ((np : Int)) ((nl : Int)) ((nt : Int)) ((ns : Int)) (s 0 0 5) v7 v8 v9) (fun M7 hM7 => ?_)
      refine g_aload_n C d_Mo_place_52 0 rfl ?_
      refine g_get C f_Mo_98 hM7.1 rfl d_Mo_place_53 ?_
      refine g_if_le C 61 d_Mo_place_56 rfl (by omega) (fun c8 => ?_) (fun c8 => ?_)
      · exact absurd c8 (by decide)
      · refine g_iconst C d_Mo_place_59 ?_
        exact g_iret C hr d_Mo_place_60 (Or.inr (Or.inl ⟨by omega, RM_of hM7 rfl e1.symm e2.symm e3.symm e4.symm rfl e1 e2 e3 e4 hr9 ht9⟩))
    · refine g_iload_n C d_Mo_place_21 3 rfl ?_
      refine g_iconst C d_Mo_place_22 ?_
      refine g_bipush C d_Mo_place_23 (by decide) ?_
      refine g_calliP C (run_S C [.int (iI z3_), .int (iI 0), .int (iI 100)] k_Mo_101 (ct_Mo_in l D tys A M z3_ 0 100 (by omega)) ⟨rfl, rfl, Nat.le_of_ble_eq_true rfl, Nat.le_of_ble_eq_true rfl⟩ rfl rfl (Nat.le_of_ble_eq_true rfl) d_Mo_place_25 ⟨Nat.le_of_ble_eq_true rfl, Nat.le_of_ble_eq_true rfl⟩) (fun z9 hz9 => ?_)
      refine g_if_ne C 35 d_Mo_place_28 rfl (by omega) (fun c10 => ?_) (fun c10 => ?_)
      · refine g_aload_n C d_Mo_place_35 0 rfl ?_
        refine g_get C f_Mo_105 hM.1 rfl d_Mo_place_36 ?_
        refine g_bipush C d_Mo_place_39 (by decide) ?_
        refine g_icmp_ne C 48 d_Mo_place_41 rfl (by omega) (fun c11 => ?_) (fun c11 => ?_)
        · refine g_iconst C d_Mo_place_48 ?_
          refine g_put C p_Mo_98 hM.1 rfl rfl (Nat.le_of_ble_eq_true rfl) (fs' := [.int (iI 0), .int (iI (s 0 0 0)), .int (iI ((np : Int))), .ref (a 0), .ref (a 1), .ref (a 2), .int (iI ((nl : Int))), .ref (a 3), .ref (a 4), .ref (a 5), .ref (a 6), .ref (a 7), .ref (a 8), .int (iI ((nt : Int))), .ref (a 9), .ref (a 10), .ref (a 11), .ref (a 12), .ref (a 13), .ref (a 14), .ref (a 15), .ref (a 16), .ref (a 17), .ref (a 18), .int (iI ((ns : Int))), .ref (a 19), .ref (a 20), .ref (a 21), .ref (a 22), .int (iI (s 0 0 5)), .int (iI v7), .int (iI v8), .int (iI v9), .ref (a 23), .ref (a 24), .ref (a 25), .ref (a 26)]) rfl d_Mo_place_49 ?_
          refine g_abs (X := fun M_ => MA tys M_ m a f 0 (s 0 0 0) ((np : Int)) ((nl : Int)) ((nt : Int)) ((ns : Int)) (s 0 0 5) v7 v8 v9) (MA_V hM 0 (s 0 0 0) ((np : Int)) ((nl : Int)) ((nt : Int)) ((ns : Int)) (s 0 0 5) v7 v8 v9) (fun M12 hM12 => ?_)
          refine g_aload_n C d_Mo_place_52 0 rfl ?_
          refine g_get C f_Mo_98 hM12.1 rfl d_Mo_place_53 ?_
          refine g_if_le C 61 d_Mo_place_56 rfl (by omega) (fun c13 => ?_) (fun c13 => ?_)
          · refine g_aload_n C d_Mo_place_61 0 rfl ?_
            refine g_get C f_Mo_7 hM12.1 rfl d_Mo_place_62 ?_
            refine g_aload_n C d_Mo_place_65 0 rfl ?_
            refine g_get C f_Mo_105 hM12.1 rfl d_Mo_place_66 ?_
            refine g_iload_n C d_Mo_place_69 1 rfl ?_
            refine g_iastN C 0 hT0 (show M12 (a 0) = some (aI tys 30 (f 0)) from hM12.2.1 0 (by decide)) np (by omega) (by omega) d_Mo_place_70 ?_ rfl
            refine g_abs (X := fun M_ => MA tys M_ m a (va_up f 0 (va_up (f 0) np z1_)) 0 (s 0 0 0) ((np : Int)) ((nl : Int)) ((nt : Int)) ((ns : Int)) (s 0 0 5) v7 v8 v9) (MA_F hM12 0 (by decide) (va_up (f 0) np z1_) rfl) (fun M14 hM14 => ?_)
            refine g_aload_n C d_Mo_place_71 0 rfl ?_
            refine g_get C f_Mo_13 hM14.1 rfl d_Mo_place_72 ?_
            refine g_aload_n C d_Mo_place_75 0 rfl ?_
            refine g_get C f_Mo_105 hM14.1 rfl d_Mo_place_76 ?_
            refine g_iload_n C d_Mo_place_79 2 rfl ?_
            refine g_iastN C 0 hT0 (show M14 (a 1) = some (aI tys 30 (f 1)) from hM14.2.1 1 (by decide)) np (by omega) (by omega) d_Mo_place_80 ?_ rfl
            refine g_abs (X := fun M_ => MA tys M_ m a (va_up (va_up f 0 (va_up (f 0) np z1_)) 1 (va_up (f 1) np z2_)) 0 (s 0 0 0) ((np : Int)) ((nl : Int)) ((nt : Int)) ((ns : Int)) (s 0 0 5) v7 v8 v9) (MA_F hM14 1 (by decide) (va_up (f 1) np z2_) rfl) (fun M15 hM15 => ?_)
            refine g_aload_n C d_Mo_place_81 0 rfl ?_
            refine g_get C f_Mo_16 hM15.1 rfl d_Mo_place_82 ?_
            refine g_aload_n C d_Mo_place_85 0 rfl ?_
            refine g_get C f_Mo_105 hM15.1 rfl d_Mo_place_86 ?_
            refine g_iload_n C d_Mo_place_89 3 rfl ?_
            refine g_iastN C 0 hT0 (show M15 (a 2) = some (aI tys 30 (f 2)) from hM15.2.1 2 (by decide)) np (by omega) (by omega) d_Mo_place_90 ?_ rfl
            refine g_abs (X := fun M_ => MA tys M_ m a (va_up (va_up (va_up f 0 (va_up (f 0) np z1_)) 1 (va_up (f 1) np z2_)) 2 (va_up (f 2) np z3_)) 0 (s 0 0 0) ((np : Int)) ((nl : Int)) ((nt : Int)) ((ns : Int)) (s 0 0 5) v7 v8 v9) (MA_F hM15 2 (by decide) (va_up (f 2) np z3_) rfl) (fun M16 hM16 => ?_)
            refine g_aload_n C d_Mo_place_91 0 rfl ?_
            refine g_dup C rfl d_Mo_place_92 ?_
            refine g_get C f_Mo_105 hM16.1 rfl d_Mo_place_93 ?_
            refine g_iconst C d_Mo_place_96 ?_
            refine g_iadd C d_Mo_place_97 ?_
            refine g_put C p_Mo_105 hM16.1 rfl rfl (Nat.le_of_ble_eq_true rfl) (fs' := [.int (iI 0), .int (iI (s 0 0 0)), .int (iI (((np : Int)) + 1)), .ref (a 0), .ref (a 1), .ref (a 2), .int (iI ((nl : Int))), .ref (a 3), .ref (a 4), .ref (a 5), .ref (a 6), .ref (a 7), .ref (a 8), .int (iI ((nt : Int))), .ref (a 9), .ref (a 10), .ref (a 11), .ref (a 12), .ref (a 13), .ref (a 14), .ref (a 15), .ref (a 16), .ref (a 17), .ref (a 18), .int (iI ((ns : Int))), .ref (a 19), .ref (a 20), .ref (a 21), .ref (a 22), .int (iI (s 0 0 5)), .int (iI v7), .int (iI v8), .int (iI v9), .ref (a 23), .ref (a 24), .ref (a 25), .ref (a 26)]) rfl d_Mo_place_98 ?_
            refine g_abs (X := fun M_ => MA tys M_ m a (va_up (va_up (va_up f 0 (va_up (f 0) np z1_)) 1 (va_up (f 1) np z2_)) 2 (va_up (f 2) np z3_)) 0 (s 0 0 0) (((np : Int)) + 1) ((nl : Int)) ((nt : Int)) ((ns : Int)) (s 0 0 5) v7 v8 v9) (MA_V hM16 0 (s 0 0 0) (((np : Int)) + 1) ((nl : Int)) ((nt : Int)) ((ns : Int)) (s 0 0 5) v7 v8 v9) (fun M17 hM17 => ?_)
            refine g_aload_n C d_Mo_place_101 0 rfl ?_
            refine g_iconst C d_Mo_place_102 ?_
            refine g_put C p_Mo_79 hM17.1 rfl rfl (Nat.le_of_ble_eq_true rfl) (fs' := [.int (iI 0), .int (iI (s 0 0 0)), .int (iI (((np : Int)) + 1)), .ref (a 0), .ref (a 1), .ref (a 2), .int (iI ((nl : Int))), .ref (a 3), .ref (a 4), .ref (a 5), .ref (a 6), .ref (a 7), .ref (a 8), .int (iI ((nt : Int))), .ref (a 9), .ref (a 10), .ref (a 11), .ref (a 12), .ref (a 13), .ref (a 14), .ref (a 15), .ref (a 16), .ref (a 17), .ref (a 18), .int (iI ((ns : Int))), .ref (a 19), .ref (a 20), .ref (a 21), .ref (a 22), .int (iI ((-1))), .int (iI v7), .int (iI v8), .int (iI v9), .ref (a 23), .ref (a 24), .ref (a 25), .ref (a 26)]) rfl d_Mo_place_103 ?_
            refine g_abs (X := fun M_ => MA tys M_ m a (va_up (va_up (va_up f 0 (va_up (f 0) np z1_)) 1 (va_up (f 1) np z2_)) 2 (va_up (f 2) np z3_)) 0 (s 0 0 0) (((np : Int)) + 1) ((nl : Int)) ((nt : Int)) ((ns : Int)) ((-1)) v7 v8 v9) (MA_V hM17 0 (s 0 0 0) (((np : Int)) + 1) ((nl : Int)) ((nt : Int)) ((ns : Int)) ((-1)) v7 v8 v9) (fun M18 hM18 => ?_)
            refine g_aload_n C d_Mo_place_106 0 rfl ?_
            refine g_get C f_Mo_105 hM18.1 rfl d_Mo_place_107 ?_
            refine g_iconst C d_Mo_place_110 ?_
            refine g_isub C d_Mo_place_111 ?_
            exact g_iret C hr d_Mo_place_112 (Or.inl ⟨by omega, by omega, by omega, RM_of (s := sPlace s z1_ z2_ z3_) hM18 rfl (by show _ = s 0 0 1 + 1; omega) e2.symm e3.symm e4.symm rfl (np := np + 1) (by show s 0 0 1 + 1 = _; omega) e2 e3 e4 (mR_place hr9 e1) ⟨hv8, hv9, fun h_ => absurd rfl h_⟩⟩)
          · exact absurd c13 (by decide)
        · refine g_iconst C d_Mo_place_44 ?_
          refine g_goto C 49 d_Mo_place_45 rfl ?_
          refine g_put C p_Mo_98 hM.1 rfl rfl (Nat.le_of_ble_eq_true rfl) (fs' := [.int (iI 2), .int (iI (s 0 0 0)), .int (iI ((np : Int))), .ref (a 0), .ref (a 1), .ref (a 2), .int (iI ((nl : Int))), .ref (a 3), .ref (a 4), .ref (a 5), .ref (a 6), .ref (a 7), .ref (a 8), .int (iI ((nt : Int))), .ref (a 9), .ref (a 10), .ref (a 11), .ref (a 12), .ref (a 13), .ref (a 14), .ref (a 15), .ref (a 16), .ref (a 17), .ref (a 18), .int (iI ((ns : Int))), .ref (a 19), .ref (a 20), .ref (a 21), .ref (a 22), .int (iI (s 0 0 5)), .int (iI v7), .int (iI v8), .int (iI v9), .ref (a 23), .ref (a 24), .ref (a 25), .ref (a 26)]) rfl d_Mo_place_49 ?_
          refine g_abs (X := fun M_ => MA tys M_ m a f 2 (s 0 0 0) ((np : Int)) ((nl : Int)) ((nt : Int)) ((ns : Int)) (s 0 0 5) v7 v8 v9) (MA_V hM 2 (s 0 0 0) ((np : Int)) ((nl : Int)) ((nt : Int)) ((ns : Int)) (s 0 0 5) v7 v8 v9) (fun M19 hM19 => ?_)
          refine g_aload_n C d_Mo_place_52 0 rfl ?_
          refine g_get C f_Mo_98 hM19.1 rfl d_Mo_place_53 ?_
          refine g_if_le C 61 d_Mo_place_56 rfl (by omega) (fun c20 => ?_) (fun c20 => ?_)
          · exact absurd c20 (by decide)
          · refine g_iconst C d_Mo_place_59 ?_
            exact g_iret C hr d_Mo_place_60 (Or.inr (Or.inr ⟨by omega, by omega, RM_of hM19 rfl e1.symm e2.symm e3.symm e4.symm rfl e1 e2 e3 e4 hr9 ht9⟩))
      · refine g_iconst C d_Mo_place_31 ?_
        refine g_goto C 49 d_Mo_place_32 rfl ?_
        refine g_put C p_Mo_98 hM.1 rfl rfl (Nat.le_of_ble_eq_true rfl) (fs' := [.int (iI 1), .int (iI (s 0 0 0)), .int (iI ((np : Int))), .ref (a 0), .ref (a 1), .ref (a 2), .int (iI ((nl : Int))), .ref (a 3), .ref (a 4), .ref (a 5), .ref (a 6), .ref (a 7), .ref (a 8), .int (iI ((nt : Int))), .ref (a 9), .ref (a 10), .ref (a 11), .ref (a 12), .ref (a 13), .ref (a 14), .ref (a 15), .ref (a 16), .ref (a 17), .ref (a 18), .int (iI ((ns : Int))), .ref (a 19), .ref (a 20), .ref (a 21), .ref (a 22), .int (iI (s 0 0 5)), .int (iI v7), .int (iI v8), .int (iI v9), .ref (a 23), .ref (a 24), .ref (a 25), .ref (a 26)]) rfl d_Mo_place_49 ?_
        refine g_abs (X := fun M_ => MA tys M_ m a f 1 (s 0 0 0) ((np : Int)) ((nl : Int)) ((nt : Int)) ((ns : Int)) (s 0 0 5) v7 v8 v9) (MA_V hM 1 (s 0 0 0) ((np : Int)) ((nl : Int)) ((nt : Int)) ((ns : Int)) (s 0 0 5) v7 v8 v9) (fun M21 hM21 => ?_)
        refine g_aload_n C d_Mo_place_52 0 rfl ?_
        refine g_get C f_Mo_98 hM21.1 rfl d_Mo_place_53 ?_
        refine g_if_le C 61 d_Mo_place_56 rfl (by omega) (fun c22 => ?_) (fun c22 => ?_)
        · exact absurd c22 (by decide)
        · refine g_iconst C d_Mo_place_59 ?_
          exact g_iret C hr d_Mo_place_60 (Or.inr (Or.inl ⟨by omega, RM_of hM21 rfl e1.symm e2.symm e3.symm e4.symm rfl e1 e2 e3 e4 hr9 ht9⟩))
set_option maxHeartbeats 4000000 in
set_option maxRecDepth 100000 in
theorem ct_Mo_lift (l : Launch) (D : va_G) (tys : xK) (A : Nat → Prop) (M : Wm) (hT : tyOK tys) (m : Nat) (s : AS) (th : Int) (np nl nt ns : Nat) (hS : okS s np nl nt ns) (hTk : TOK s nl nt ns) (z1_ z2_ z3_ z4_ z5_ z6_ : Int) (hz1 : (-2147483648 ≤ z1_ ∧ z1_ < 2147483648)) (hz2 : (-2147483648 ≤ z2_ ∧ z2_ < 2147483648)) (hz3 : (-2147483648 ≤ z3_ ∧ z3_ < 2147483648)) (hz4 : (-2147483648 ≤ z4_ ∧ z4_ < 2147483648)) (hz5 : (-2147483648 ≤ z5_ ∧ z5_ < 2147483648)) (hz6 : (-2147483648 ≤ z6_ ∧ z6_ < 2147483648))  (hRM : RM tys M m s th) : mT l y_Mo_lift b_Mo_lift 7 (some .int) { frames := 1, cells := 0, slots := 0, locals := 22 } D tys A [.ref m, .int (iI z1_), .int (iI z2_), .int (iI z3_), .int (iI z4_), .int (iI z5_), .int (iI z6_)] M (qI D A (fun z M' => ((((0 ≤ z1_ ∧ z1_ ≤ 100) ∧ (0 ≤ z2_ ∧ z2_ ≤ 100)) ∧ (0 ≤ z4_ ∧ z4_ ≤ 30) ∧ (0 ≤ z3_ ∧ z3_ ≤ z4_) ∧ (0 ≤ z5_ ∧ z5_ ≤ 100) ∧ (0 ≤ z6_ ∧ z6_ ≤ 100)) ∧ s 0 0 2 < 6 ∧ z = s 0 0 2 ∧ RM tys M' m (sLiftN s z1_ z2_ z3_ z4_ z5_ z6_) 0) ∨ (¬ (((0 ≤ z1_ ∧ z1_ ≤ 100) ∧ (0 ≤ z2_ ∧ z2_ ≤ 100)) ∧ (0 ≤ z4_ ∧ z4_ ≤ 30) ∧ (0 ≤ z3_ ∧ z3_ ≤ z4_) ∧ (0 ≤ z5_ ∧ z5_ ≤ 100) ∧ (0 ≤ z6_ ∧ z6_ ≤ 100)) ∧ RM tys M' m s 1) ∨ ((((0 ≤ z1_ ∧ z1_ ≤ 100) ∧ (0 ≤ z2_ ∧ z2_ ≤ 100)) ∧ (0 ≤ z4_ ∧ z4_ ≤ 30) ∧ (0 ≤ z3_ ∧ z3_ ≤ z4_) ∧ (0 ≤ z5_ ∧ z5_ ≤ 100) ∧ (0 ≤ z6_ ∧ z6_ ≤ 100)) ∧ 6 ≤ s 0 0 2 ∧ RM tys M' m s 2))) 0 0 := by
  refine met_of (own := R_Mo) (lv := [(0, .ref m), (1, .int (iI z1_)), (2, .int (iI z2_)), (3, .int (iI z3_)), (4, .int (iI z4_)), (5, .int (iI z5_)), (6, .int (iI z6_))]) rfl (by decide) (Nat.le_of_ble_eq_true rfl) rfl ?_
  intro p_ e_ s_ m_ bl_ me_ c_ C hr hin
  have hT9 := hT
  obtain ⟨hT0, hT1, hT2, hT3, hT4, hT5, hT32, hT42, hT52, hT43, hT53, hT54⟩ := hT
  obtain ⟨a, f, v7, v8, v9, hM, hr9, ht9⟩ := RM_to hS hRM
  have hwho : -1 ≤ s 0 0 5 ∧ s 0 0 5 < (ns : Int) := by
    rcases hTk with ⟨h_, -⟩ | ⟨w_, cn_, dn_, h1_, h2_, -⟩ <;> omega
  obtain ⟨hv8, hv9, hvt⟩ := id ht9
  have hS0 := hS
  obtain ⟨⟨e1, e2, e3, e4⟩, ⟨b1_, b2_, b3_, b4_⟩, b5_, okp, oklf, okt, oku, oksp, okg, oku6⟩ := hS
  obtain ⟨rp, rl, rt, rz, re, rs⟩ := id hr9
  refine g_aload_n C d_Mo_lift_0 0 rfl ?_
  refine g_iload_n C d_Mo_lift_1 1 rfl ?_
  refine g_iconst C d_Mo_lift_2 ?_
  refine g_bipush C d_Mo_lift_3 (by decide) ?_
  refine g_calliP C (run_S C [.int (iI z1_), .int (iI 0), .int (iI 100)] k_Mo_101 (ct_Mo_in l D tys A M z1_ 0 100 (by omega)) ⟨rfl, rfl, Nat.le_of_ble_eq_true rfl, Nat.le_of_ble_eq_true rfl⟩ rfl rfl (Nat.le_of_ble_eq_true rfl) d_Mo_lift_5 ⟨Nat.le_of_ble_eq_true rfl, Nat.le_of_ble_eq_true rfl⟩) (fun z1 hz1 => ?_)
  refine g_if_eq C 64 d_Mo_lift_8 rfl (by omega) (fun c2 => ?_) (fun c2 => ?_)
  · refine g_iconst C d_Mo_lift_64 ?_
    refine g_goto C 82 d_Mo_lift_65 rfl ?_
    refine g_put C p_Mo_98 hM.1 rfl rfl (Nat.le_of_ble_eq_true rfl) (fs' := [.int (iI 1), .int (iI (s 0 0 0)), .int (iI ((np : Int))), .ref (a 0), .ref (a 1), .ref (a 2), .int (iI ((nl : Int))), .ref (a 3), .ref (a 4), .ref (a 5), .ref (a 6), .ref (a 7), .ref (a 8), .int (iI ((nt : Int))), .ref (a 9), .ref (a 10), .ref (a 11), .ref (a 12), .ref (a 13), .ref (a 14), .ref (a 15), .ref (a 16), .ref (a 17), .ref (a 18), .int (iI ((ns : Int))), .ref (a 19), .ref (a 20), .ref (a 21), .ref (a 22), .int (iI (s 0 0 5)), .int (iI v7), .int (iI v8), .int (iI v9), .ref (a 23), .ref (a 24), .ref (a 25), .ref (a 26)]) rfl d_Mo_lift_82 ?_
    refine g_abs (X := fun M_ => MA tys M_ m a f 1 (s 0 0 0) ((np : Int)) ((nl : Int)) ((nt : Int)) ((ns : Int)) (s 0 0 5) v7 v8 v9) (MA_V hM 1 (s 0 0 0) ((np : Int)) ((nl : Int)) ((nt : Int)) ((ns : Int)) (s 0 0 5) v7 v8 v9) (fun M3 hM3 => ?_)
    refine g_aload_n C d_Mo_lift_85 0 rfl ?_
    refine g_get C f_Mo_98 hM3.1 rfl d_Mo_lift_86 ?_
    refine g_if_le C 94 d_Mo_lift_89 rfl (by omega) (fun c4 => ?_) (fun c4 => ?_)
    · exact absurd c4 (by decide)
    · refine g_iconst C d_Mo_lift_92 ?_
      exact g_iret C hr d_Mo_lift_93 (Or.inr (Or.inl ⟨by omega, RM_of hM3 rfl e1.symm e2.symm e3.symm e4.symm rfl e1 e2 e3 e4 hr9 ht9⟩))
  · refine g_iload_n C d_Mo_lift_11 2 rfl ?_
    refine g_iconst C d_Mo_lift_12 ?_
    refine g_bipush C d_Mo_lift_13 (by decide) ?_
    refine g_calliP C (run_S C [.int (iI z2_), .int (iI 0), .int (iI 100)] k_Mo_101 (ct_Mo_in l D tys A M z2_ 0 100 (by omega)) ⟨rfl, rfl, Nat.le_of_ble_eq_true rfl, Nat.le_of_ble_eq_true rfl⟩ rfl rfl (Nat.le_of_ble_eq_true rfl) d_Mo_lift_15 ⟨Nat.le_of_ble_eq_true rfl, Nat.le_of_ble_eq_true rfl⟩) (fun z5 hz5 => ?_)
    refine g_if_eq C 64 d_Mo_lift_18 rfl (by omega) (fun c6 => ?_) (fun c6 => ?_)
    · refine g_iconst C d_Mo_lift_64 ?_
      refine g_goto C 82 d_Mo_lift_65 rfl ?_
      refine g_put C p_Mo_98 hM.1 rfl rfl (Nat.le_of_ble_eq_true rfl) (fs' := [.int (iI 1), .int (iI (s 0 0 0)), .int (iI ((np : Int))), .ref (a 0), .ref (a 1), .ref (a 2), .int (iI ((nl : Int))), .ref (a 3), .ref (a 4), .ref (a 5), .ref (a 6), .ref (a 7), .ref (a 8), .int (iI ((nt : Int))), .ref (a 9), .ref (a 10), .ref (a 11), .ref (a 12), .ref (a 13), .ref (a 14), .ref (a 15), .ref (a 16), .ref (a 17), .ref (a 18), .int (iI ((ns : Int))), .ref (a 19), .ref (a 20), .ref (a 21), .ref (a 22), .int (iI (s 0 0 5)), .int (iI v7), .int (iI v8), .int (iI v9), .ref (a 23), .ref (a 24), .ref (a 25), .ref (a 26)]) rfl d_Mo_lift_82 ?_
      refine g_abs (X := fun M_ => MA tys M_ m a f 1 (s 0 0 0) ((np : Int)) ((nl : Int)) ((nt : Int)) ((ns : Int)) (s 0 0 5) v7 v8 v9) (MA_V hM 1 (s 0 0 0) ((np : Int)) ((nl : Int)) ((nt : Int)) ((ns : Int)) (s 0 0 5) v7 v8 v9) (fun M7 hM7 => ?_)
      refine g_aload_n C d_Mo_lift_85 0 rfl ?_
      refine g_get C f_Mo_98 hM7.1 rfl d_Mo_lift_86 ?_
      refine g_if_le C 94 d_Mo_lift_89 rfl (by omega) (fun c8 => ?_) (fun c8 => ?_)
      · exact absurd c8 (by decide)
      · refine g_iconst C d_Mo_lift_92 ?_
        exact g_iret C hr d_Mo_lift_93 (Or.inr (Or.inl ⟨by omega, RM_of hM7 rfl e1.symm e2.symm e3.symm e4.symm rfl e1 e2 e3 e4 hr9 ht9⟩))
    · refine g_iload_n C d_Mo_lift_21 3 rfl ?_
      refine g_iconst C d_Mo_lift_22 ?_
      refine g_bipush C d_Mo_lift_23 (by decide) ?_
      refine g_calliP C (run_S C [.int (iI z3_), .int (iI 0), .int (iI 30)] k_Mo_101 (ct_Mo_in l D tys A M z3_ 0 30 (by omega)) ⟨rfl, rfl, Nat.le_of_ble_eq_true rfl, Nat.le_of_ble_eq_true rfl⟩ rfl rfl (Nat.le_of_ble_eq_true rfl) d_Mo_lift_25 ⟨Nat.le_of_ble_eq_true rfl, Nat.le_of_ble_eq_true rfl⟩) (fun z9 hz9 => ?_)
      refine g_if_eq C 64 d_Mo_lift_28 rfl (by omega) (fun c10 => ?_) (fun c10 => ?_)
      · refine g_iconst C d_Mo_lift_64 ?_
        refine g_goto C 82 d_Mo_lift_65 rfl ?_
        refine g_put C p_Mo_98 hM.1 rfl rfl (Nat.le_of_ble_eq_true rfl) (fs' := [.int (iI 1), .int (iI (s 0 0 0)), .int (iI ((np : Int))), .ref (a 0), .ref (a 1), .ref (a 2), .int (iI ((nl : Int))), .ref (a 3), .ref (a 4), .ref (a 5), .ref (a 6), .ref (a 7), .ref (a 8), .int (iI ((nt : Int))), .ref (a 9), .ref (a 10), .ref (a 11), .ref (a 12), .ref (a 13), .ref (a 14), .ref (a 15), .ref (a 16), .ref (a 17), .ref (a 18), .int (iI ((ns : Int))), .ref (a 19), .ref (a 20), .ref (a 21), .ref (a 22), .int (iI (s 0 0 5)), .int (iI v7), .int (iI v8), .int (iI v9), .ref (a 23), .ref (a 24), .ref (a 25), .ref (a 26)]) rfl d_Mo_lift_82 ?_
        refine g_abs (X := fun M_ => MA tys M_ m a f 1 (s 0 0 0) ((np : Int)) ((nl : Int)) ((nt : Int)) ((ns : Int)) (s 0 0 5) v7 v8 v9) (MA_V hM 1 (s 0 0 0) ((np : Int)) ((nl : Int)) ((nt : Int)) ((ns : Int)) (s 0 0 5) v7 v8 v9) (fun M11 hM11 => ?_)
        refine g_aload_n C d_Mo_lift_85 0 rfl ?_
        refine g_get C f_Mo_98 hM11.1 rfl d_Mo_lift_86 ?_
        refine g_if_le C 94 d_Mo_lift_89 rfl (by omega) (fun c12 => ?_) (fun c12 => ?_)
        · exact absurd c12 (by decide)
        · refine g_iconst C d_Mo_lift_92 ?_
          exact g_iret C hr d_Mo_lift_93 (Or.inr (Or.inl ⟨by omega, RM_of hM11 rfl e1.symm e2.symm e3.symm e4.symm rfl e1 e2 e3 e4 hr9 ht9⟩))
      · refine g_iload C d_Mo_lift_31 4 rfl ?_
        refine g_iload_n C d_Mo_lift_33 3 rfl ?_
        refine g_bipush C d_Mo_lift_34 (by decide) ?_
        refine g_calliP C (run_S C [.int (iI z4_), .int (iI z3_), .int (iI 30)] k_Mo_101 (ct_Mo_in l D tys A M z4_ z3_ 30 (by omega)) ⟨rfl, rfl, Nat.le_of_ble_eq_true rfl, Nat.le_of_ble_eq_true rfl⟩ rfl rfl (Nat.le_of_ble_eq_true rfl) d_Mo_lift_36 ⟨Nat.le_of_ble_eq_true rfl, Nat.le_of_ble_eq_true rfl⟩) (fun z13 hz13 => ?_)
        refine g_if_eq C 64 d_Mo_lift_39 rfl (by omega) (fun c14 => ?_) (fun c14 => ?_)
        · refine g_iconst C d_Mo_lift_64 ?_
          refine g_goto C 82 d_Mo_lift_65 rfl ?_
          refine g_put C p_Mo_98 hM.1 rfl rfl (Nat.le_of_ble_eq_true rfl) (fs' := [.int (iI 1), .int (iI (s 0 0 0)), .int (iI ((np : Int))), .ref (a 0), .ref (a 1), .ref (a 2), .int (iI ((nl : Int))), .ref (a 3), .ref (a 4), .ref (a 5), .ref (a 6), .ref (a 7), .ref (a 8), .int (iI ((nt : Int))), .ref (a 9), .ref (a 10), .ref (a 11), .ref (a 12), .ref (a 13), .ref (a 14), .ref (a 15), .ref (a 16), .ref (a 17), .ref (a 18), .int (iI ((ns : Int))), .ref (a 19), .ref (a 20), .ref (a 21), .ref (a 22), .int (iI (s 0 0 5)), .int (iI v7), .int (iI v8), .int (iI v9), .ref (a 23), .ref (a 24), .ref (a 25), .ref (a 26)]) rfl d_Mo_lift_82 ?_
          refine g_abs (X := fun M_ => MA tys M_ m a f 1 (s 0 0 0) ((np : Int)) ((nl : Int)) ((nt : Int)) ((ns : Int)) (s 0 0 5) v7 v8 v9) (MA_V hM 1 (s 0 0 0) ((np : Int)) ((nl : Int)) ((nt : Int)) ((ns : Int)) (s 0 0 5) v7 v8 v9) (fun M15 hM15 => ?_)
          refine g_aload_n C d_Mo_lift_85 0 rfl ?_
          refine g_get C f_Mo_98 hM15.1 rfl d_Mo_lift_86 ?_
          refine g_if_le C 94 d_Mo_lift_89 rfl (by omega) (fun c16 => ?_) (fun c16 => ?_)
          · exact absurd c16 (by decide)
          · refine g_iconst C d_Mo_lift_92 ?_
            exact g_iret C hr d_Mo_lift_93 (Or.inr (Or.inl ⟨by omega, RM_of hM15 rfl e1.symm e2.symm e3.symm e4.symm rfl e1 e2 e3 e4 hr9 ht9⟩))
        · refine g_iload C d_Mo_lift_42 5 rfl ?_
          refine g_iconst C d_Mo_lift_44 ?_
          refine g_bipush C d_Mo_lift_45 (by decide) ?_
          refine g_calliP C (run_S C [.int (iI z5_), .int (iI 0), .int (iI 100)] k_Mo_101 (ct_Mo_in l D tys A M z5_ 0 100 (by omega)) ⟨rfl, rfl, Nat.le_of_ble_eq_true rfl, Nat.le_of_ble_eq_true rfl⟩ rfl rfl (Nat.le_of_ble_eq_true rfl) d_Mo_lift_47 ⟨Nat.le_of_ble_eq_true rfl, Nat.le_of_ble_eq_true rfl⟩) (fun z17 hz17 => ?_)
          refine g_if_eq C 64 d_Mo_lift_50 rfl (by omega) (fun c18 => ?_) (fun c18 => ?_)
          · refine g_iconst C d_Mo_lift_64 ?_
            refine g_goto C 82 d_Mo_lift_65 rfl ?_
            refine g_put C p_Mo_98 hM.1 rfl rfl (Nat.le_of_ble_eq_true rfl) (fs' := [.int (iI 1), .int (iI (s 0 0 0)), .int (iI ((np : Int))), .ref (a 0), .ref (a 1), .ref (a 2), .int (iI ((nl : Int))), .ref (a 3), .ref (a 4), .ref (a 5), .ref (a 6), .ref (a 7), .ref (a 8), .int (iI ((nt : Int))), .ref (a 9), .ref (a 10), .ref (a 11), .ref (a 12), .ref (a 13), .ref (a 14), .ref (a 15), .ref (a 16), .ref (a 17), .ref (a 18), .int (iI ((ns : Int))), .ref (a 19), .ref (a 20), .ref (a 21), .ref (a 22), .int (iI (s 0 0 5)), .int (iI v7), .int (iI v8), .int (iI v9), .ref (a 23), .ref (a 24), .ref (a 25), .ref (a 26)]) rfl d_Mo_lift_82 ?_
            refine g_abs (X := fun M_ => MA tys M_ m a f 1 (s 0 0 0) ((np : Int)) ((nl : Int)) ((nt : Int)) ((ns : Int)) (s 0 0 5) v7 v8 v9) (MA_V hM 1 (s 0 0 0) ((np : Int)) ((nl : Int)) ((nt : Int)) ((ns : Int)) (s 0 0 5) v7 v8 v9) (fun M19 hM19 => ?_)
            refine g_aload_n C d_Mo_lift_85 0 rfl ?_
            refine g_get C f_Mo_98 hM19.1 rfl d_Mo_lift_86 ?_
            refine g_if_le C 94 d_Mo_lift_89 rfl (by omega) (fun c20 => ?_) (fun c20 => ?_)
            · exact absurd c20 (by decide)
            · refine g_iconst C d_Mo_lift_92 ?_
              exact g_iret C hr d_Mo_lift_93 (Or.inr (Or.inl ⟨by omega, RM_of hM19 rfl e1.symm e2.symm e3.symm e4.symm rfl e1 e2 e3 e4 hr9 ht9⟩))
          · refine g_iload C d_Mo_lift_53 6 rfl ?_
            refine g_iconst C d_Mo_lift_55 ?_
            refine g_bipush C d_Mo_lift_56 (by decide) ?_
            refine g_calliP C (run_S C [.int (iI z6_), .int (iI 0), .int (iI 100)] k_Mo_101 (ct_Mo_in l D tys A M z6_ 0 100 (by omega)) ⟨rfl, rfl, Nat.le_of_ble_eq_true rfl, Nat.le_of_ble_eq_true rfl⟩ rfl rfl (Nat.le_of_ble_eq_true rfl) d_Mo_lift_58 ⟨Nat.le_of_ble_eq_true rfl, Nat.le_of_ble_eq_true rfl⟩) (fun z21 hz21 => ?_)
            refine g_if_ne C 68 d_Mo_lift_61 rfl (by omega) (fun c22 => ?_) (fun c22 => ?_)
            · refine g_aload_n C d_Mo_lift_68 0 rfl ?_
              refine g_get C f_Mo_108 hM.1 rfl d_Mo_lift_69 ?_
              refine g_bipush C d_Mo_lift_72 (by decide) ?_
              refine g_icmp_ne C 81 d_Mo_lift_74 rfl (by omega) (fun c23 => ?_) (fun c23 => ?_)
              · refine g_iconst C d_Mo_lift_81 ?_
                refine g_put C p_Mo_98 hM.1 rfl rfl (Nat.le_of_ble_eq_true rfl) (fs' := [.int (iI 0), .int (iI (s 0 0 0)), .int (iI ((np : Int))), .ref (a 0), .ref (a 1), .ref (a 2), .int (iI ((nl : Int))), .ref (a 3), .ref (a 4), .ref (a 5), .ref (a 6), .ref (a 7), .ref (a 8), .int (iI ((nt : Int))), .ref (a 9), .ref (a 10), .ref (a 11), .ref (a 12), .ref (a 13), .ref (a 14), .ref (a 15), .ref (a 16), .ref (a 17), .ref (a 18), .int (iI ((ns : Int))), .ref (a 19), .ref (a 20), .ref (a 21), .ref (a 22), .int (iI (s 0 0 5)), .int (iI v7), .int (iI v8), .int (iI v9), .ref (a 23), .ref (a 24), .ref (a 25), .ref (a 26)]) rfl d_Mo_lift_82 ?_
                refine g_abs (X := fun M_ => MA tys M_ m a f 0 (s 0 0 0) ((np : Int)) ((nl : Int)) ((nt : Int)) ((ns : Int)) (s 0 0 5) v7 v8 v9) (MA_V hM 0 (s 0 0 0) ((np : Int)) ((nl : Int)) ((nt : Int)) ((ns : Int)) (s 0 0 5) v7 v8 v9) (fun M24 hM24 => ?_)
                refine g_aload_n C d_Mo_lift_85 0 rfl ?_
                refine g_get C f_Mo_98 hM24.1 rfl d_Mo_lift_86 ?_
                refine g_if_le C 94 d_Mo_lift_89 rfl (by omega) (fun c25 => ?_) (fun c25 => ?_)
                · refine g_aload_n C d_Mo_lift_94 0 rfl ?_
                  refine g_get C f_Mo_19 hM24.1 rfl d_Mo_lift_95 ?_
                  refine g_aload_n C d_Mo_lift_98 0 rfl ?_
                  refine g_get C f_Mo_108 hM24.1 rfl d_Mo_lift_99 ?_
                  refine g_iload_n C d_Mo_lift_102 1 rfl ?_
                  refine g_iastN C 0 hT0 (show M24 (a 3) = some (aI tys 6 (f 3)) from hM24.2.1 3 (by decide)) nl (by omega) (by omega) d_Mo_lift_103 ?_ rfl
                  refine g_abs (X := fun M_ => MA tys M_ m a (va_up f 3 (va_up (f 3) nl z1_)) 0 (s 0 0 0) ((np : Int)) ((nl : Int)) ((nt : Int)) ((ns : Int)) (s 0 0 5) v7 v8 v9) (MA_F hM24 3 (by decide) (va_up (f 3) nl z1_) rfl) (fun M26 hM26 => ?_)
                  refine g_aload_n C d_Mo_lift_104 0 rfl ?_
                  refine g_get C f_Mo_22 hM26.1 rfl d_Mo_lift_105 ?_
                  refine g_aload_n C d_Mo_lift_108 0 rfl ?_
                  refine g_get C f_Mo_108 hM26.1 rfl d_Mo_lift_109 ?_
                  refine g_iload_n C d_Mo_lift_112 2 rfl ?_
                  refine g_iastN C 0 hT0 (show M26 (a 4) = some (aI tys 6 (f 4)) from hM26.2.1 4 (by decide)) nl (by omega) (by omega) d_Mo_lift_113 ?_ rfl
                  refine g_abs (X := fun M_ => MA tys M_ m a (va_up (va_up f 3 (va_up (f 3) nl z1_)) 4 (va_up (f 4) nl z2_)) 0 (s 0 0 0) ((np : Int)) ((nl : Int)) ((nt : Int)) ((ns : Int)) (s 0 0 5) v7 v8 v9) (MA_F hM26 4 (by decide) (va_up (f 4) nl z2_) rfl) (fun M27 hM27 => ?_)
                  refine g_aload_n C d_Mo_lift_114 0 rfl ?_
                  refine g_get C f_Mo_25 hM27.1 rfl d_Mo_lift_115 ?_
                  refine g_aload_n C d_Mo_lift_118 0 rfl ?_
                  refine g_get C f_Mo_108 hM27.1 rfl d_Mo_lift_119 ?_
                  refine g_iload_n C d_Mo_lift_122 3 rfl ?_
                  refine g_iastN C 0 hT0 (show M27 (a 5) = some (aI tys 6 (f 5)) from hM27.2.1 5 (by decide)) nl (by omega) (by omega) d_Mo_lift_123 ?_ rfl
                  refine g_abs (X := fun M_ => MA tys M_ m a (va_up (va_up (va_up f 3 (va_up (f 3) nl z1_)) 4 (va_up (f 4) nl z2_)) 5 (va_up (f 5) nl z3_)) 0 (s 0 0 0) ((np : Int)) ((nl : Int)) ((nt : Int)) ((ns : Int)) (s 0 0 5) v7 v8 v9) (MA_F hM27 5 (by decide) (va_up (f 5) nl z3_) rfl) (fun M28 hM28 => ?_)
                  refine g_aload_n C d_Mo_lift_124 0 rfl ?_
                  refine g_get C f_Mo_28 hM28.1 rfl d_Mo_lift_125 ?_
                  refine g_aload_n C d_Mo_lift_128 0 rfl ?_
                  refine g_get C f_Mo_108 hM28.1 rfl d_Mo_lift_129 ?_
                  refine g_iload C d_Mo_lift_132 4 rfl ?_
                  refine g_iastN C 0 hT0 (show M28 (a 6) = some (aI tys 6 (f 6)) from hM28.2.1 6 (by decide)) nl (by omega) (by omega) d_Mo_lift_134 ?_ rfl
                  refine g_abs (X := fun M_ => MA tys M_ m a (va_up (va_up (va_up (va_up f 3 (va_up (f 3) nl z1_)) 4 (va_up (f 4) nl z2_)) 5 (va_up (f 5) nl z3_)) 6 (va_up (f 6) nl z4_)) 0 (s 0 0 0) ((np : Int)) ((nl : Int)) ((nt : Int)) ((ns : Int)) (s 0 0 5) v7 v8 v9) (MA_F hM28 6 (by decide) (va_up (f 6) nl z4_) rfl) (fun M29 hM29 => ?_)
                  refine g_aload_n C d_Mo_lift_135 0 rfl ?_
                  refine g_get C f_Mo_31 hM29.1 rfl d_Mo_lift_136 ?_
                  refine g_aload_n C d_Mo_lift_139 0 rfl ?_
                  refine g_get C f_Mo_108 hM29.1 rfl d_Mo_lift_140 ?_
                  refine g_iload C d_Mo_lift_143 5 rfl ?_
                  refine g_iastN C 0 hT0 (show M29 (a 7) = some (aI tys 6 (f 7)) from hM29.2.1 7 (by decide)) nl (by omega) (by omega) d_Mo_lift_145 ?_ rfl
                  refine g_abs (X := fun M_ => MA tys M_ m a (va_up (va_up (va_up (va_up (va_up f 3 (va_up (f 3) nl z1_)) 4 (va_up (f 4) nl z2_)) 5 (va_up (f 5) nl z3_)) 6 (va_up (f 6) nl z4_)) 7 (va_up (f 7) nl z5_)) 0 (s 0 0 0) ((np : Int)) ((nl : Int)) ((nt : Int)) ((ns : Int)) (s 0 0 5) v7 v8 v9) (MA_F hM29 7 (by decide) (va_up (f 7) nl z5_) rfl) (fun M30 hM30 => ?_)
                  refine g_aload_n C d_Mo_lift_146 0 rfl ?_
                  refine g_get C f_Mo_34 hM30.1 rfl d_Mo_lift_147 ?_
                  refine g_aload_n C d_Mo_lift_150 0 rfl ?_
                  refine g_get C f_Mo_108 hM30.1 rfl d_Mo_lift_151 ?_
                  refine g_iload C d_Mo_lift_154 6 rfl ?_
                  refine g_iastN C 0 hT0 (show M30 (a 8) = some (aI tys 6 (f 8)) from hM30.2.1 8 (by decide)) nl (by omega) (by omega) d_Mo_lift_156 ?_ rfl
                  refine g_abs (X := fun M_ => MA tys M_ m a (va_up (va_up (va_up (va_up (va_up (va_up f 3 (va_up (f 3) nl z1_)) 4 (va_up (f 4) nl z2_)) 5 (va_up (f 5) nl z3_)) 6 (va_up (f 6) nl z4_)) 7 (va_up (f 7) nl z5_)) 8 (va_up (f 8) nl z6_)) 0 (s 0 0 0) ((np : Int)) ((nl : Int)) ((nt : Int)) ((ns : Int)) (s 0 0 5) v7 v8 v9) (MA_F hM30 8 (by decide) (va_up (f 8) nl z6_) rfl) (fun M31 hM31 => ?_)
                  refine g_aload_n C d_Mo_lift_157 0 rfl ?_
                  refine g_dup C rfl d_Mo_lift_158 ?_
                  refine g_get C f_Mo_108 hM31.1 rfl d_Mo_lift_159 ?_
                  refine g_iconst C d_Mo_lift_162 ?_
                  refine g_iadd C d_Mo_lift_163 ?_
                  refine g_put C p_Mo_108 hM31.1 rfl rfl (Nat.le_of_ble_eq_true rfl) (fs' := [.int (iI 0), .int (iI (s 0 0 0)), .int (iI ((np : Int))), .ref (a 0), .ref (a 1), .ref (a 2), .int (iI (((nl : Int)) + 1)), .ref (a 3), .ref (a 4), .ref (a 5), .ref (a 6), .ref (a 7), .ref (a 8), .int (iI ((nt : Int))), .ref (a 9), .ref (a 10), .ref (a 11), .ref (a 12), .ref (a 13), .ref (a 14), .ref (a 15), .ref (a 16), .ref (a 17), .ref (a 18), .int (iI ((ns : Int))), .ref (a 19), .ref (a 20), .ref (a 21), .ref (a 22), .int (iI (s 0 0 5)), .int (iI v7), .int (iI v8), .int (iI v9), .ref (a 23), .ref (a 24), .ref (a 25), .ref (a 26)]) rfl d_Mo_lift_164 ?_
                  refine g_abs (X := fun M_ => MA tys M_ m a (va_up (va_up (va_up (va_up (va_up (va_up f 3 (va_up (f 3) nl z1_)) 4 (va_up (f 4) nl z2_)) 5 (va_up (f 5) nl z3_)) 6 (va_up (f 6) nl z4_)) 7 (va_up (f 7) nl z5_)) 8 (va_up (f 8) nl z6_)) 0 (s 0 0 0) ((np : Int)) (((nl : Int)) + 1) ((nt : Int)) ((ns : Int)) (s 0 0 5) v7 v8 v9) (MA_V hM31 0 (s 0 0 0) ((np : Int)) (((nl : Int)) + 1) ((nt : Int)) ((ns : Int)) (s 0 0 5) v7 v8 v9) (fun M32 hM32 => ?_)
                  refine g_aload_n C d_Mo_lift_167 0 rfl ?_
                  refine g_iconst C d_Mo_lift_168 ?_
                  refine g_put C p_Mo_79 hM32.1 rfl rfl (Nat.le_of_ble_eq_true rfl) (fs' := [.int (iI 0), .int (iI (s 0 0 0)), .int (iI ((np : Int))), .ref (a 0), .ref (a 1), .ref (a 2), .int (iI (((nl : Int)) + 1)), .ref (a 3), .ref (a 4), .ref (a 5), .ref (a 6), .ref (a 7), .ref (a 8), .int (iI ((nt : Int))), .ref (a 9), .ref (a 10), .ref (a 11), .ref (a 12), .ref (a 13), .ref (a 14), .ref (a 15), .ref (a 16), .ref (a 17), .ref (a 18), .int (iI ((ns : Int))), .ref (a 19), .ref (a 20), .ref (a 21), .ref (a 22), .int (iI ((-1))), .int (iI v7), .int (iI v8), .int (iI v9), .ref (a 23), .ref (a 24), .ref (a 25), .ref (a 26)]) rfl d_Mo_lift_169 ?_
                  refine g_abs (X := fun M_ => MA tys M_ m a (va_up (va_up (va_up (va_up (va_up (va_up f 3 (va_up (f 3) nl z1_)) 4 (va_up (f 4) nl z2_)) 5 (va_up (f 5) nl z3_)) 6 (va_up (f 6) nl z4_)) 7 (va_up (f 7) nl z5_)) 8 (va_up (f 8) nl z6_)) 0 (s 0 0 0) ((np : Int)) (((nl : Int)) + 1) ((nt : Int)) ((ns : Int)) ((-1)) v7 v8 v9) (MA_V hM32 0 (s 0 0 0) ((np : Int)) (((nl : Int)) + 1) ((nt : Int)) ((ns : Int)) ((-1)) v7 v8 v9) (fun M33 hM33 => ?_)
                  refine g_aload_n C d_Mo_lift_172 0 rfl ?_
                  refine g_get C f_Mo_108 hM33.1 rfl d_Mo_lift_173 ?_
                  refine g_iconst C d_Mo_lift_176 ?_
                  refine g_isub C d_Mo_lift_177 ?_
                  exact g_iret C hr d_Mo_lift_178 (Or.inl ⟨by omega, by omega, by omega, RM_of (s := sLiftN s z1_ z2_ z3_ z4_ z5_ z6_) hM33 rfl e1.symm (by show _ = s 0 0 2 + 1; omega) e3.symm e4.symm rfl e1 (nl := nl + 1) (by show s 0 0 2 + 1 = _; omega) e3 e4 (mR_lift hr9 e2) ⟨hv8, hv9, fun h_ => absurd rfl h_⟩⟩)
                · exact absurd c25 (by decide)
              · refine g_iconst C d_Mo_lift_77 ?_
                refine g_goto C 82 d_Mo_lift_78 rfl ?_
                refine g_put C p_Mo_98 hM.1 rfl rfl (Nat.le_of_ble_eq_true rfl) (fs' := [.int (iI 2), .int (iI (s 0 0 0)), .int (iI ((np : Int))), .ref (a 0), .ref (a 1), .ref (a 2), .int (iI ((nl : Int))), .ref (a 3), .ref (a 4), .ref (a 5), .ref (a 6), .ref (a 7), .ref (a 8), .int (iI ((nt : Int))), .ref (a 9), .ref (a 10), .ref (a 11), .ref (a 12), .ref (a 13), .ref (a 14), .ref (a 15), .ref (a 16), .ref (a 17), .ref (a 18), .int (iI ((ns : Int))), .ref (a 19), .ref (a 20), .ref (a 21), .ref (a 22), .int (iI (s 0 0 5)), .int (iI v7), .int (iI v8), .int (iI v9), .ref (a 23), .ref (a 24), .ref (a 25), .ref (a 26)]) rfl d_Mo_lift_82 ?_
                refine g_abs (X := fun M_ => MA tys M_ m a f 2 (s 0 0 0) ((np : Int)) ((nl : Int)) ((nt : Int)) ((ns : Int)) (s 0 0 5) v7 v8 v9) (MA_V hM 2 (s 0 0 0) ((np : Int)) ((nl : Int)) ((nt : Int)) ((ns : Int)) (s 0 0 5) v7 v8 v9) (fun M34 hM34 => ?_)
                refine g_aload_n C d_Mo_lift_85 0 rfl ?_
                refine g_get C f_Mo_98 hM34.1 rfl d_Mo_lift_86 ?_
                refine g_if_le C 94 d_Mo_lift_89 rfl (by omega) (fun c35 => ?_) (fun c35 => ?_)
                · exact absurd c35 (by decide)
                · refine g_iconst C d_Mo_lift_92 ?_
                  exact g_iret C hr d_Mo_lift_93 (Or.inr (Or.inr ⟨by omega, by omega, RM_of hM34 rfl e1.symm e2.symm e3.symm e4.symm rfl e1 e2 e3 e4 hr9 ht9⟩))
            · refine g_iconst C d_Mo_lift_64 ?_
              refine g_goto C 82 d_Mo_lift_65 rfl ?_
              refine g_put C p_Mo_98 hM.1 rfl rfl (Nat.le_of_ble_eq_true rfl) (fs' := [.int (iI 1), .int (iI (s 0 0 0)), .int (iI ((np : Int))), .ref (a 0), .ref (a 1), .ref (a 2), .int (iI ((nl : Int))), .ref (a 3), .ref (a 4), .ref (a 5), .ref (a 6), .ref (a 7), .ref (a 8), .int (iI ((nt : Int))), .ref (a 9), .ref (a 10), .ref (a 11), .ref (a 12), .ref (a 13), .ref (a 14), .ref (a 15), .ref (a 16), .ref (a 17), .ref (a 18), .int (iI ((ns : Int))), .ref (a 19), .ref (a 20), .ref (a 21), .ref (a 22), .int (iI (s 0 0 5)), .int (iI v7), .int (iI v8), .int (iI v9), .ref (a 23), .ref (a 24), .ref (a 25), .ref (a 26)]) rfl d_Mo_lift_82 ?_
              refine g_abs (X := fun M_ => MA tys M_ m a f 1 (s 0 0 0) ((np : Int)) ((nl : Int)) ((nt : Int)) ((ns : Int)) (s 0 0 5) v7 v8 v9) (MA_V hM 1 (s 0 0 0) ((np : Int)) ((nl : Int)) ((nt : Int)) ((ns : Int)) (s 0 0 5) v7 v8 v9) (fun M36 hM36 => ?_)
              refine g_aload_n C d_Mo_lift_85 0 rfl ?_
              refine g_get C f_Mo_98 hM36.1 rfl d_Mo_lift_86 ?_
              refine g_if_le C 94 d_Mo_lift_89 rfl (by omega) (fun c37 => ?_) (fun c37 => ?_)
              · exact absurd c37 (by decide)
              · refine g_iconst C d_Mo_lift_92 ?_
                exact g_iret C hr d_Mo_lift_93 (Or.inr (Or.inl ⟨by omega, RM_of hM36 rfl e1.symm e2.symm e3.symm e4.symm rfl e1 e2 e3 e4 hr9 ht9⟩))
set_option maxHeartbeats 4000000 in
set_option maxRecDepth 100000 in
theorem ct_Mo_part (l : Launch) (D : va_G) (tys : xK) (A : Nat → Prop) (M : Wm) (hT : tyOK tys) (m : Nat) (s : AS) (th : Int) (np nl nt ns : Nat) (hS : okS s np nl nt ns) (hTk : TOK s nl nt ns) (z1_ z2_ z3_ z4_ z5_ z6_ : Int) (hz1 : (-2147483648 ≤ z1_ ∧ z1_ < 2147483648)) (hz2 : (-2147483648 ≤ z2_ ∧ z2_ < 2147483648)) (hz3 : (-2147483648 ≤ z3_ ∧ z3_ < 2147483648)) (hz4 : (-2147483648 ≤ z4_ ∧ z4_ < 2147483648)) (hz5 : (-2147483648 ≤ z5_ ∧ z5_ < 2147483648)) (hz6 : (-2147483648 ≤ z6_ ∧ z6_ < 2147483648))  (hRM : RM tys M m s th) : mT l y_Mo_part b_Mo_part 7 (some .int) { frames := 1, cells := 0, slots := 0, locals := 22 } D tys A [.ref m, .int (iI z1_), .int (iI z2_), .int (iI z3_), .int (iI z4_), .int (iI z5_), .int (iI z6_)] M (qI D A (fun z M' => (((0 ≤ z1_ ∧ z1_ < s 0 0 1) ∧ (0 ≤ z2_ ∧ z2_ ≤ 7) ∧ (0 ≤ z3_ ∧ z3_ ≤ 4) ∧ (1 ≤ z4_ ∧ z4_ ≤ 400) ∧ (1 ≤ z5_ ∧ z5_ ≤ 10000) ∧ (1 ≤ z6_ ∧ z6_ ≤ 7200)) ∧ s 0 0 3 < 40 ∧ z = s 0 0 3 ∧ RM tys M' m (sPart s z1_ z2_ z3_ z4_ z5_ z6_) 0) ∨ (¬ ((0 ≤ z1_ ∧ z1_ < s 0 0 1) ∧ (0 ≤ z2_ ∧ z2_ ≤ 7) ∧ (0 ≤ z3_ ∧ z3_ ≤ 4) ∧ (1 ≤ z4_ ∧ z4_ ≤ 400) ∧ (1 ≤ z5_ ∧ z5_ ≤ 10000) ∧ (1 ≤ z6_ ∧ z6_ ≤ 7200)) ∧ RM tys M' m s 1) ∨ (((0 ≤ z1_ ∧ z1_ < s 0 0 1) ∧ (0 ≤ z2_ ∧ z2_ ≤ 7) ∧ (0 ≤ z3_ ∧ z3_ ≤ 4) ∧ (1 ≤ z4_ ∧ z4_ ≤ 400) ∧ (1 ≤ z5_ ∧ z5_ ≤ 10000) ∧ (1 ≤ z6_ ∧ z6_ ≤ 7200)) ∧ 40 ≤ s 0 0 3 ∧ RM tys M' m s 2))) 0 0 := by
  refine met_of (own := R_Mo) (lv := [(0, .ref m), (1, .int (iI z1_)), (2, .int (iI z2_)), (3, .int (iI z3_)), (4, .int (iI z4_)), (5, .int (iI z5_)), (6, .int (iI z6_))]) rfl (by decide) (Nat.le_of_ble_eq_true rfl) rfl ?_
  intro p_ e_ s_ m_ bl_ me_ c_ C hr hin
  have hT9 := hT
  obtain ⟨hT0, hT1, hT2, hT3, hT4, hT5, hT32, hT42, hT52, hT43, hT53, hT54⟩ := hT
  obtain ⟨a, f, v7, v8, v9, hM, hr9, ht9⟩ := RM_to hS hRM
  have hwho : -1 ≤ s 0 0 5 ∧ s 0 0 5 < (ns : Int) := by
    rcases hTk with ⟨h_, -⟩ | ⟨w_, cn_, dn_, h1_, h2_, -⟩ <;> omega
  obtain ⟨hv8, hv9, hvt⟩ := id ht9
  have hS0 := hS
  obtain ⟨⟨e1, e2, e3, e4⟩, ⟨b1_, b2_, b3_, b4_⟩, b5_, okp, oklf, okt, oku, oksp, okg, oku6⟩ := hS
  obtain ⟨rp, rl, rt, rz, re, rs⟩ := id hr9
  refine g_aload_n C d_Mo_part_0 0 rfl ?_
  refine g_iload_n C d_Mo_part_1 1 rfl ?_
  refine g_iconst C d_Mo_part_2 ?_
  refine g_aload_n C d_Mo_part_3 0 rfl ?_
  refine g_get C f_Mo_105 hM.1 rfl d_Mo_part_4 ?_
  refine g_iconst C d_Mo_part_7 ?_
  refine g_isub C d_Mo_part_8 ?_
  refine g_calliP C (run_S C [.int (iI z1_), .int (iI 0), .int (iI (((np : Int)) - 1))] k_Mo_101 (ct_Mo_in l D tys A M z1_ 0 (((np : Int)) - 1) (by omega)) ⟨rfl, rfl, Nat.le_of_ble_eq_true rfl, Nat.le_of_ble_eq_true rfl⟩ rfl rfl (Nat.le_of_ble_eq_true rfl) d_Mo_part_9 ⟨Nat.le_of_ble_eq_true rfl, Nat.le_of_ble_eq_true rfl⟩) (fun z1 hz1 => ?_)
  refine g_if_eq C 70 d_Mo_part_12 rfl (by omega) (fun c2 => ?_) (fun c2 => ?_)
  · refine g_iconst C d_Mo_part_70 ?_
    refine g_goto C 88 d_Mo_part_71 rfl ?_
    refine g_put C p_Mo_98 hM.1 rfl rfl (Nat.le_of_ble_eq_true rfl) (fs' := [.int (iI 1), .int (iI (s 0 0 0)), .int (iI ((np : Int))), .ref (a 0), .ref (a 1), .ref (a 2), .int (iI ((nl : Int))), .ref (a 3), .ref (a 4), .ref (a 5), .ref (a 6), .ref (a 7), .ref (a 8), .int (iI ((nt : Int))), .ref (a 9), .ref (a 10), .ref (a 11), .ref (a 12), .ref (a 13), .ref (a 14), .ref (a 15), .ref (a 16), .ref (a 17), .ref (a 18), .int (iI ((ns : Int))), .ref (a 19), .ref (a 20), .ref (a 21), .ref (a 22), .int (iI (s 0 0 5)), .int (iI v7), .int (iI v8), .int (iI v9), .ref (a 23), .ref (a 24), .ref (a 25), .ref (a 26)]) rfl d_Mo_part_88 ?_
    refine g_abs (X := fun M_ => MA tys M_ m a f 1 (s 0 0 0) ((np : Int)) ((nl : Int)) ((nt : Int)) ((ns : Int)) (s 0 0 5) v7 v8 v9) (MA_V hM 1 (s 0 0 0) ((np : Int)) ((nl : Int)) ((nt : Int)) ((ns : Int)) (s 0 0 5) v7 v8 v9) (fun M3 hM3 => ?_)
    refine g_aload_n C d_Mo_part_91 0 rfl ?_
    refine g_get C f_Mo_98 hM3.1 rfl d_Mo_part_92 ?_
    refine g_if_le C 100 d_Mo_part_95 rfl (by omega) (fun c4 => ?_) (fun c4 => ?_)
    · exact absurd c4 (by decide)
    · refine g_iconst C d_Mo_part_98 ?_
      exact g_iret C hr d_Mo_part_99 (Or.inr (Or.inl ⟨by omega, RM_of hM3 rfl e1.symm e2.symm e3.symm e4.symm rfl e1 e2 e3 e4 hr9 ht9⟩))
  · refine g_iload_n C d_Mo_part_15 2 rfl ?_
    refine g_iconst C d_Mo_part_16 ?_
    refine g_bipush C d_Mo_part_17 (by decide) ?_
    refine g_calliP C (run_S C [.int (iI z2_), .int (iI 0), .int (iI 7)] k_Mo_101 (ct_Mo_in l D tys A M z2_ 0 7 (by omega)) ⟨rfl, rfl, Nat.le_of_ble_eq_true rfl, Nat.le_of_ble_eq_true rfl⟩ rfl rfl (Nat.le_of_ble_eq_true rfl) d_Mo_part_19 ⟨Nat.le_of_ble_eq_true rfl, Nat.le_of_ble_eq_true rfl⟩) (fun z5 hz5 => ?_)
    refine g_if_eq C 70 d_Mo_part_22 rfl (by omega) (fun c6 => ?_) (fun c6 => ?_)
    · refine g_iconst C d_Mo_part_70 ?_
      refine g_goto C 88 d_Mo_part_71 rfl ?_
      refine g_put C p_Mo_98 hM.1 rfl rfl (Nat.le_of_ble_eq_true rfl) (fs' := [.int (iI 1), .int (iI (s 0 0 0)), .int (iI ((np : Int))), .ref (a 0), .ref (a 1), .ref (a 2), .int (iI ((nl : Int))), .ref (a 3), .ref (a 4), .ref (a 5), .ref (a 6), .ref (a 7), .ref (a 8), .int (iI ((nt : Int))), .ref (a 9), .ref (a 10), .ref (a 11), .ref (a 12), .ref (a 13), .ref (a 14), .ref (a 15), .ref (a 16), .ref (a 17), .ref (a 18), .int (iI ((ns : Int))), .ref (a 19), .ref (a 20), .ref (a 21), .ref (a 22), .int (iI (s 0 0 5)), .int (iI v7), .int (iI v8), .int (iI v9), .ref (a 23), .ref (a 24), .ref (a 25), .ref (a 26)]) rfl d_Mo_part_88 ?_
      refine g_abs (X := fun M_ => MA tys M_ m a f 1 (s 0 0 0) ((np : Int)) ((nl : Int)) ((nt : Int)) ((ns : Int)) (s 0 0 5) v7 v8 v9) (MA_V hM 1 (s 0 0 0) ((np : Int)) ((nl : Int)) ((nt : Int)) ((ns : Int)) (s 0 0 5) v7 v8 v9) (fun M7 hM7 => ?_)
      refine g_aload_n C d_Mo_part_91 0 rfl ?_
      refine g_get C f_Mo_98 hM7.1 rfl d_Mo_part_92 ?_
      refine g_if_le C 100 d_Mo_part_95 rfl (by omega) (fun c8 => ?_) (fun c8 => ?_)
      · exact absurd c8 (by decide)
      · refine g_iconst C d_Mo_part_98 ?_
        exact g_iret C hr d_Mo_part_99 (Or.inr (Or.inl ⟨by omega, RM_of hM7 rfl e1.symm e2.symm e3.symm e4.symm rfl e1 e2 e3 e4 hr9 ht9⟩))
    · refine g_iload_n C d_Mo_part_25 3 rfl ?_
      refine g_iconst C d_Mo_part_26 ?_
      refine g_iconst C d_Mo_part_27 ?_
      refine g_calliP C (run_S C [.int (iI z3_), .int (iI 0), .int (iI 4)] k_Mo_101 (ct_Mo_in l D tys A M z3_ 0 4 (by omega)) ⟨rfl, rfl, Nat.le_of_ble_eq_true rfl, Nat.le_of_ble_eq_true rfl⟩ rfl rfl (Nat.le_of_ble_eq_true rfl) d_Mo_part_28 ⟨Nat.le_of_ble_eq_true rfl, Nat.le_of_ble_eq_true rfl⟩) (fun z9 hz9 => ?_)
      refine g_if_eq C 70 d_Mo_part_31 rfl (by omega) (fun c10 => ?_) (fun c10 => ?_)
      · refine g_iconst C d_Mo_part_70 ?_
        refine g_goto C 88 d_Mo_part_71 rfl ?_
        refine g_put C p_Mo_98 hM.1 rfl rfl (Nat.le_of_ble_eq_true rfl) (fs' := [.int (iI 1), .int (iI (s 0 0 0)), .int (iI ((np : Int))), .ref (a 0), .ref (a 1), .ref (a 2), .int (iI ((nl : Int))), .ref (a 3), .ref (a 4), .ref (a 5), .ref (a 6), .ref (a 7), .ref (a 8), .int (iI ((nt : Int))), .ref (a 9), .ref (a 10), .ref (a 11), .ref (a 12), .ref (a 13), .ref (a 14), .ref (a 15), .ref (a 16), .ref (a 17), .ref (a 18), .int (iI ((ns : Int))), .ref (a 19), .ref (a 20), .ref (a 21), .ref (a 22), .int (iI (s 0 0 5)), .int (iI v7), .int (iI v8), .int (iI v9), .ref (a 23), .ref (a 24), .ref (a 25), .ref (a 26)]) rfl d_Mo_part_88 ?_
        refine g_abs (X := fun M_ => MA tys M_ m a f 1 (s 0 0 0) ((np : Int)) ((nl : Int)) ((nt : Int)) ((ns : Int)) (s 0 0 5) v7 v8 v9) (MA_V hM 1 (s 0 0 0) ((np : Int)) ((nl : Int)) ((nt : Int)) ((ns : Int)) (s 0 0 5) v7 v8 v9) (fun M11 hM11 => ?_)
        refine g_aload_n C d_Mo_part_91 0 rfl ?_
        refine g_get C f_Mo_98 hM11.1 rfl d_Mo_part_92 ?_
        refine g_if_le C 100 d_Mo_part_95 rfl (by omega) (fun c12 => ?_) (fun c12 => ?_)
        · exact absurd c12 (by decide)
        · refine g_iconst C d_Mo_part_98 ?_
          exact g_iret C hr d_Mo_part_99 (Or.inr (Or.inl ⟨by omega, RM_of hM11 rfl e1.symm e2.symm e3.symm e4.symm rfl e1 e2 e3 e4 hr9 ht9⟩))
      · refine g_iload C d_Mo_part_34 4 rfl ?_
        refine g_iconst C d_Mo_part_36 ?_
        refine g_sipush C d_Mo_part_37 (by decide) ?_
        refine g_calliP C (run_S C [.int (iI z4_), .int (iI 1), .int (iI 400)] k_Mo_101 (ct_Mo_in l D tys A M z4_ 1 400 (by omega)) ⟨rfl, rfl, Nat.le_of_ble_eq_true rfl, Nat.le_of_ble_eq_true rfl⟩ rfl rfl (Nat.le_of_ble_eq_true rfl) d_Mo_part_40 ⟨Nat.le_of_ble_eq_true rfl, Nat.le_of_ble_eq_true rfl⟩) (fun z13 hz13 => ?_)
        refine g_if_eq C 70 d_Mo_part_43 rfl (by omega) (fun c14 => ?_) (fun c14 => ?_)
        · refine g_iconst C d_Mo_part_70 ?_
          refine g_goto C 88 d_Mo_part_71 rfl ?_
          refine g_put C p_Mo_98 hM.1 rfl rfl (Nat.le_of_ble_eq_true rfl) (fs' := [.int (iI 1), .int (iI (s 0 0 0)), .int (iI ((np : Int))), .ref (a 0), .ref (a 1), .ref (a 2), .int (iI ((nl : Int))), .ref (a 3), .ref (a 4), .ref (a 5), .ref (a 6), .ref (a 7), .ref (a 8), .int (iI ((nt : Int))), .ref (a 9), .ref (a 10), .ref (a 11), .ref (a 12), .ref (a 13), .ref (a 14), .ref (a 15), .ref (a 16), .ref (a 17), .ref (a 18), .int (iI ((ns : Int))), .ref (a 19), .ref (a 20), .ref (a 21), .ref (a 22), .int (iI (s 0 0 5)), .int (iI v7), .int (iI v8), .int (iI v9), .ref (a 23), .ref (a 24), .ref (a 25), .ref (a 26)]) rfl d_Mo_part_88 ?_
          refine g_abs (X := fun M_ => MA tys M_ m a f 1 (s 0 0 0) ((np : Int)) ((nl : Int)) ((nt : Int)) ((ns : Int)) (s 0 0 5) v7 v8 v9) (MA_V hM 1 (s 0 0 0) ((np : Int)) ((nl : Int)) ((nt : Int)) ((ns : Int)) (s 0 0 5) v7 v8 v9) (fun M15 hM15 => ?_)
          refine g_aload_n C d_Mo_part_91 0 rfl ?_
          refine g_get C f_Mo_98 hM15.1 rfl d_Mo_part_92 ?_
          refine g_if_le C 100 d_Mo_part_95 rfl (by omega) (fun c16 => ?_) (fun c16 => ?_)
          · exact absurd c16 (by decide)
          · refine g_iconst C d_Mo_part_98 ?_
            exact g_iret C hr d_Mo_part_99 (Or.inr (Or.inl ⟨by omega, RM_of hM15 rfl e1.symm e2.symm e3.symm e4.symm rfl e1 e2 e3 e4 hr9 ht9⟩))
        · refine g_iload C d_Mo_part_46 5 rfl ?_
          refine g_iconst C d_Mo_part_48 ?_
          refine g_sipush C d_Mo_part_49 (by decide) ?_
          refine g_calliP C (run_S C [.int (iI z5_), .int (iI 1), .int (iI 10000)] k_Mo_101 (ct_Mo_in l D tys A M z5_ 1 10000 (by omega)) ⟨rfl, rfl, Nat.le_of_ble_eq_true rfl, Nat.le_of_ble_eq_true rfl⟩ rfl rfl (Nat.le_of_ble_eq_true rfl) d_Mo_part_52 ⟨Nat.le_of_ble_eq_true rfl, Nat.le_of_ble_eq_true rfl⟩) (fun z17 hz17 => ?_)
          refine g_if_eq C 70 d_Mo_part_55 rfl (by omega) (fun c18 => ?_) (fun c18 => ?_)
          · refine g_iconst C d_Mo_part_70 ?_
            refine g_goto C 88 d_Mo_part_71 rfl ?_
            refine g_put C p_Mo_98 hM.1 rfl rfl (Nat.le_of_ble_eq_true rfl) (fs' := [.int (iI 1), .int (iI (s 0 0 0)), .int (iI ((np : Int))), .ref (a 0), .ref (a 1), .ref (a 2), .int (iI ((nl : Int))), .ref (a 3), .ref (a 4), .ref (a 5), .ref (a 6), .ref (a 7), .ref (a 8), .int (iI ((nt : Int))), .ref (a 9), .ref (a 10), .ref (a 11), .ref (a 12), .ref (a 13), .ref (a 14), .ref (a 15), .ref (a 16), .ref (a 17), .ref (a 18), .int (iI ((ns : Int))), .ref (a 19), .ref (a 20), .ref (a 21), .ref (a 22), .int (iI (s 0 0 5)), .int (iI v7), .int (iI v8), .int (iI v9), .ref (a 23), .ref (a 24), .ref (a 25), .ref (a 26)]) rfl d_Mo_part_88 ?_
            refine g_abs (X := fun M_ => MA tys M_ m a f 1 (s 0 0 0) ((np : Int)) ((nl : Int)) ((nt : Int)) ((ns : Int)) (s 0 0 5) v7 v8 v9) (MA_V hM 1 (s 0 0 0) ((np : Int)) ((nl : Int)) ((nt : Int)) ((ns : Int)) (s 0 0 5) v7 v8 v9) (fun M19 hM19 => ?_)
            refine g_aload_n C d_Mo_part_91 0 rfl ?_
            refine g_get C f_Mo_98 hM19.1 rfl d_Mo_part_92 ?_
            refine g_if_le C 100 d_Mo_part_95 rfl (by omega) (fun c20 => ?_) (fun c20 => ?_)
            · exact absurd c20 (by decide)
            · refine g_iconst C d_Mo_part_98 ?_
              exact g_iret C hr d_Mo_part_99 (Or.inr (Or.inl ⟨by omega, RM_of hM19 rfl e1.symm e2.symm e3.symm e4.symm rfl e1 e2 e3 e4 hr9 ht9⟩))
          · refine g_iload C d_Mo_part_58 6 rfl ?_
            refine g_iconst C d_Mo_part_60 ?_
            refine g_sipush C d_Mo_part_61 (by decide) ?_
            refine g_calliP C (run_S C [.int (iI z6_), .int (iI 1), .int (iI 7200)] k_Mo_101 (ct_Mo_in l D tys A M z6_ 1 7200 (by omega)) ⟨rfl, rfl, Nat.le_of_ble_eq_true rfl, Nat.le_of_ble_eq_true rfl⟩ rfl rfl (Nat.le_of_ble_eq_true rfl) d_Mo_part_64 ⟨Nat.le_of_ble_eq_true rfl, Nat.le_of_ble_eq_true rfl⟩) (fun z21 hz21 => ?_)
            refine g_if_ne C 74 d_Mo_part_67 rfl (by omega) (fun c22 => ?_) (fun c22 => ?_)
            · refine g_aload_n C d_Mo_part_74 0 rfl ?_
              refine g_get C f_Mo_111 hM.1 rfl d_Mo_part_75 ?_
              refine g_bipush C d_Mo_part_78 (by decide) ?_
              refine g_icmp_ne C 87 d_Mo_part_80 rfl (by omega) (fun c23 => ?_) (fun c23 => ?_)
              · refine g_iconst C d_Mo_part_87 ?_
                refine g_put C p_Mo_98 hM.1 rfl rfl (Nat.le_of_ble_eq_true rfl) (fs' := [.int (iI 0), .int (iI (s 0 0 0)), .int (iI ((np : Int))), .ref (a 0), .ref (a 1), .ref (a 2), .int (iI ((nl : Int))), .ref (a 3), .ref (a 4), .ref (a 5), .ref (a 6), .ref (a 7), .ref (a 8), .int (iI ((nt : Int))), .ref (a 9), .ref (a 10), .ref (a 11), .ref (a 12), .ref (a 13), .ref (a 14), .ref (a 15), .ref (a 16), .ref (a 17), .ref (a 18), .int (iI ((ns : Int))), .ref (a 19), .ref (a 20), .ref (a 21), .ref (a 22), .int (iI (s 0 0 5)), .int (iI v7), .int (iI v8), .int (iI v9), .ref (a 23), .ref (a 24), .ref (a 25), .ref (a 26)]) rfl d_Mo_part_88 ?_
                refine g_abs (X := fun M_ => MA tys M_ m a f 0 (s 0 0 0) ((np : Int)) ((nl : Int)) ((nt : Int)) ((ns : Int)) (s 0 0 5) v7 v8 v9) (MA_V hM 0 (s 0 0 0) ((np : Int)) ((nl : Int)) ((nt : Int)) ((ns : Int)) (s 0 0 5) v7 v8 v9) (fun M24 hM24 => ?_)
                refine g_aload_n C d_Mo_part_91 0 rfl ?_
                refine g_get C f_Mo_98 hM24.1 rfl d_Mo_part_92 ?_
                refine g_if_le C 100 d_Mo_part_95 rfl (by omega) (fun c25 => ?_) (fun c25 => ?_)
                · refine g_aload_n C d_Mo_part_100 0 rfl ?_
                  refine g_get C f_Mo_37 hM24.1 rfl d_Mo_part_101 ?_
                  refine g_aload_n C d_Mo_part_104 0 rfl ?_
                  refine g_get C f_Mo_111 hM24.1 rfl d_Mo_part_105 ?_
                  refine g_iload_n C d_Mo_part_108 1 rfl ?_
                  refine g_iastN C 0 hT0 (show M24 (a 9) = some (aI tys 40 (f 9)) from hM24.2.1 9 (by decide)) nt (by omega) (by omega) d_Mo_part_109 ?_ rfl
                  refine g_abs (X := fun M_ => MA tys M_ m a (va_up f 9 (va_up (f 9) nt z1_)) 0 (s 0 0 0) ((np : Int)) ((nl : Int)) ((nt : Int)) ((ns : Int)) (s 0 0 5) v7 v8 v9) (MA_F hM24 9 (by decide) (va_up (f 9) nt z1_) rfl) (fun M26 hM26 => ?_)
                  refine g_aload_n C d_Mo_part_110 0 rfl ?_
                  refine g_get C f_Mo_40 hM26.1 rfl d_Mo_part_111 ?_
                  refine g_aload_n C d_Mo_part_114 0 rfl ?_
                  refine g_get C f_Mo_111 hM26.1 rfl d_Mo_part_115 ?_
                  refine g_iload_n C d_Mo_part_118 2 rfl ?_
                  refine g_iastN C 0 hT0 (show M26 (a 10) = some (aI tys 40 (f 10)) from hM26.2.1 10 (by decide)) nt (by omega) (by omega) d_Mo_part_119 ?_ rfl
                  refine g_abs (X := fun M_ => MA tys M_ m a (va_up (va_up f 9 (va_up (f 9) nt z1_)) 10 (va_up (f 10) nt z2_)) 0 (s 0 0 0) ((np : Int)) ((nl : Int)) ((nt : Int)) ((ns : Int)) (s 0 0 5) v7 v8 v9) (MA_F hM26 10 (by decide) (va_up (f 10) nt z2_) rfl) (fun M27 hM27 => ?_)
                  refine g_aload_n C d_Mo_part_120 0 rfl ?_
                  refine g_get C f_Mo_43 hM27.1 rfl d_Mo_part_121 ?_
                  refine g_aload_n C d_Mo_part_124 0 rfl ?_
                  refine g_get C f_Mo_111 hM27.1 rfl d_Mo_part_125 ?_
                  refine g_iload_n C d_Mo_part_128 3 rfl ?_
                  refine g_iastN C 0 hT0 (show M27 (a 11) = some (aI tys 40 (f 11)) from hM27.2.1 11 (by decide)) nt (by omega) (by omega) d_Mo_part_129 ?_ rfl
                  refine g_abs (X := fun M_ => MA tys M_ m a (va_up (va_up (va_up f 9 (va_up (f 9) nt z1_)) 10 (va_up (f 10) nt z2_)) 11 (va_up (f 11) nt z3_)) 0 (s 0 0 0) ((np : Int)) ((nl : Int)) ((nt : Int)) ((ns : Int)) (s 0 0 5) v7 v8 v9) (MA_F hM27 11 (by decide) (va_up (f 11) nt z3_) rfl) (fun M28 hM28 => ?_)
                  refine g_aload_n C d_Mo_part_130 0 rfl ?_
                  refine g_get C f_Mo_46 hM28.1 rfl d_Mo_part_131 ?_
                  refine g_aload_n C d_Mo_part_134 0 rfl ?_
                  refine g_get C f_Mo_111 hM28.1 rfl d_Mo_part_135 ?_
                  refine g_iload C d_Mo_part_138 4 rfl ?_
                  refine g_iastN C 0 hT0 (show M28 (a 12) = some (aI tys 40 (f 12)) from hM28.2.1 12 (by decide)) nt (by omega) (by omega) d_Mo_part_140 ?_ rfl
                  refine g_abs (X := fun M_ => MA tys M_ m a (va_up (va_up (va_up (va_up f 9 (va_up (f 9) nt z1_)) 10 (va_up (f 10) nt z2_)) 11 (va_up (f 11) nt z3_)) 12 (va_up (f 12) nt z4_)) 0 (s 0 0 0) ((np : Int)) ((nl : Int)) ((nt : Int)) ((ns : Int)) (s 0 0 5) v7 v8 v9) (MA_F hM28 12 (by decide) (va_up (f 12) nt z4_) rfl) (fun M29 hM29 => ?_)
                  refine g_aload_n C d_Mo_part_141 0 rfl ?_
                  refine g_get C f_Mo_49 hM29.1 rfl d_Mo_part_142 ?_
                  refine g_aload_n C d_Mo_part_145 0 rfl ?_
                  refine g_get C f_Mo_111 hM29.1 rfl d_Mo_part_146 ?_
                  refine g_iload C d_Mo_part_149 5 rfl ?_
                  refine g_iastN C 0 hT0 (show M29 (a 13) = some (aI tys 40 (f 13)) from hM29.2.1 13 (by decide)) nt (by omega) (by omega) d_Mo_part_151 ?_ rfl
                  refine g_abs (X := fun M_ => MA tys M_ m a (va_up (va_up (va_up (va_up (va_up f 9 (va_up (f 9) nt z1_)) 10 (va_up (f 10) nt z2_)) 11 (va_up (f 11) nt z3_)) 12 (va_up (f 12) nt z4_)) 13 (va_up (f 13) nt z5_)) 0 (s 0 0 0) ((np : Int)) ((nl : Int)) ((nt : Int)) ((ns : Int)) (s 0 0 5) v7 v8 v9) (MA_F hM29 13 (by decide) (va_up (f 13) nt z5_) rfl) (fun M30 hM30 => ?_)
                  refine g_aload_n C d_Mo_part_152 0 rfl ?_
                  refine g_get C f_Mo_52 hM30.1 rfl d_Mo_part_153 ?_
                  refine g_aload_n C d_Mo_part_156 0 rfl ?_
                  refine g_get C f_Mo_111 hM30.1 rfl d_Mo_part_157 ?_
                  refine g_iload C d_Mo_part_160 6 rfl ?_
                  refine g_iastN C 0 hT0 (show M30 (a 14) = some (aI tys 40 (f 14)) from hM30.2.1 14 (by decide)) nt (by omega) (by omega) d_Mo_part_162 ?_ rfl
                  refine g_abs (X := fun M_ => MA tys M_ m a (va_up (va_up (va_up (va_up (va_up (va_up f 9 (va_up (f 9) nt z1_)) 10 (va_up (f 10) nt z2_)) 11 (va_up (f 11) nt z3_)) 12 (va_up (f 12) nt z4_)) 13 (va_up (f 13) nt z5_)) 14 (va_up (f 14) nt z6_)) 0 (s 0 0 0) ((np : Int)) ((nl : Int)) ((nt : Int)) ((ns : Int)) (s 0 0 5) v7 v8 v9) (MA_F hM30 14 (by decide) (va_up (f 14) nt z6_) rfl) (fun M31 hM31 => ?_)
                  refine g_aload_n C d_Mo_part_163 0 rfl ?_
                  refine g_get C f_Mo_64 hM31.1 rfl d_Mo_part_164 ?_
                  refine g_aload_n C d_Mo_part_167 0 rfl ?_
                  refine g_get C f_Mo_111 hM31.1 rfl d_Mo_part_168 ?_
                  refine g_iconst C d_Mo_part_171 ?_
                  refine g_iastN C 0 hT0 (show M31 (a 18) = some (aI tys 40 (f 18)) from hM31.2.1 18 (by decide)) nt (by omega) (by omega) d_Mo_part_172 ?_ rfl
                  refine g_abs (X := fun M_ => MA tys M_ m a (va_up (va_up (va_up (va_up (va_up (va_up (va_up f 9 (va_up (f 9) nt z1_)) 10 (va_up (f 10) nt z2_)) 11 (va_up (f 11) nt z3_)) 12 (va_up (f 12) nt z4_)) 13 (va_up (f 13) nt z5_)) 14 (va_up (f 14) nt z6_)) 18 (va_up (f 18) nt ((-1)))) 0 (s 0 0 0) ((np : Int)) ((nl : Int)) ((nt : Int)) ((ns : Int)) (s 0 0 5) v7 v8 v9) (MA_F hM31 18 (by decide) (va_up (f 18) nt ((-1))) rfl) (fun M32 hM32 => ?_)
                  refine g_aload_n C d_Mo_part_173 0 rfl ?_
                  refine g_dup C rfl d_Mo_part_174 ?_
                  refine g_get C f_Mo_111 hM32.1 rfl d_Mo_part_175 ?_
                  refine g_iconst C d_Mo_part_178 ?_
                  refine g_iadd C d_Mo_part_179 ?_
                  refine g_put C p_Mo_111 hM32.1 rfl rfl (Nat.le_of_ble_eq_true rfl) (fs' := [.int (iI 0), .int (iI (s 0 0 0)), .int (iI ((np : Int))), .ref (a 0), .ref (a 1), .ref (a 2), .int (iI ((nl : Int))), .ref (a 3), .ref (a 4), .ref (a 5), .ref (a 6), .ref (a 7), .ref (a 8), .int (iI (((nt : Int)) + 1)), .ref (a 9), .ref (a 10), .ref (a 11), .ref (a 12), .ref (a 13), .ref (a 14), .ref (a 15), .ref (a 16), .ref (a 17), .ref (a 18), .int (iI ((ns : Int))), .ref (a 19), .ref (a 20), .ref (a 21), .ref (a 22), .int (iI (s 0 0 5)), .int (iI v7), .int (iI v8), .int (iI v9), .ref (a 23), .ref (a 24), .ref (a 25), .ref (a 26)]) rfl d_Mo_part_180 ?_
                  refine g_abs (X := fun M_ => MA tys M_ m a (va_up (va_up (va_up (va_up (va_up (va_up (va_up f 9 (va_up (f 9) nt z1_)) 10 (va_up (f 10) nt z2_)) 11 (va_up (f 11) nt z3_)) 12 (va_up (f 12) nt z4_)) 13 (va_up (f 13) nt z5_)) 14 (va_up (f 14) nt z6_)) 18 (va_up (f 18) nt ((-1)))) 0 (s 0 0 0) ((np : Int)) ((nl : Int)) (((nt : Int)) + 1) ((ns : Int)) (s 0 0 5) v7 v8 v9) (MA_V hM32 0 (s 0 0 0) ((np : Int)) ((nl : Int)) (((nt : Int)) + 1) ((ns : Int)) (s 0 0 5) v7 v8 v9) (fun M33 hM33 => ?_)
                  refine g_aload_n C d_Mo_part_183 0 rfl ?_
                  refine g_get C f_Mo_111 hM33.1 rfl d_Mo_part_184 ?_
                  refine g_iconst C d_Mo_part_187 ?_
                  refine g_isub C d_Mo_part_188 ?_
                  exact g_iret C hr d_Mo_part_189 (Or.inl ⟨by omega, by omega, by omega, RM_of (s := sPart s z1_ z2_ z3_ z4_ z5_ z6_) hM33 rfl e1.symm e2.symm (by show _ = s 0 0 3 + 1; omega) e4.symm rfl e1 e2 (nt := nt + 1) (by show s 0 0 3 + 1 = _; omega) e4 (mR_part hr9 e3) ht9⟩)
                · exact absurd c25 (by decide)
              · refine g_iconst C d_Mo_part_83 ?_
                refine g_goto C 88 d_Mo_part_84 rfl ?_
                refine g_put C p_Mo_98 hM.1 rfl rfl (Nat.le_of_ble_eq_true rfl) (fs' := [.int (iI 2), .int (iI (s 0 0 0)), .int (iI ((np : Int))), .ref (a 0), .ref (a 1), .ref (a 2), .int (iI ((nl : Int))), .ref (a 3), .ref (a 4), .ref (a 5), .ref (a 6), .ref (a 7), .ref (a 8), .int (iI ((nt : Int))), .ref (a 9), .ref (a 10), .ref (a 11), .ref (a 12), .ref (a 13), .ref (a 14), .ref (a 15), .ref (a 16), .ref (a 17), .ref (a 18), .int (iI ((ns : Int))), .ref (a 19), .ref (a 20), .ref (a 21), .ref (a 22), .int (iI (s 0 0 5)), .int (iI v7), .int (iI v8), .int (iI v9), .ref (a 23), .ref (a 24), .ref (a 25), .ref (a 26)]) rfl d_Mo_part_88 ?_
                refine g_abs (X := fun M_ => MA tys M_ m a f 2 (s 0 0 0) ((np : Int)) ((nl : Int)) ((nt : Int)) ((ns : Int)) (s 0 0 5) v7 v8 v9) (MA_V hM 2 (s 0 0 0) ((np : Int)) ((nl : Int)) ((nt : Int)) ((ns : Int)) (s 0 0 5) v7 v8 v9) (fun M34 hM34 => ?_)
                refine g_aload_n C d_Mo_part_91 0 rfl ?_
                refine g_get C f_Mo_98 hM34.1 rfl d_Mo_part_92 ?_
                refine g_if_le C 100 d_Mo_part_95 rfl (by omega) (fun c35 => ?_) (fun c35 => ?_)
                · exact absurd c35 (by decide)
                · refine g_iconst C d_Mo_part_98 ?_
                  exact g_iret C hr d_Mo_part_99 (Or.inr (Or.inr ⟨by omega, by omega, RM_of hM34 rfl e1.symm e2.symm e3.symm e4.symm rfl e1 e2 e3 e4 hr9 ht9⟩))
            · refine g_iconst C d_Mo_part_70 ?_
              refine g_goto C 88 d_Mo_part_71 rfl ?_
              refine g_put C p_Mo_98 hM.1 rfl rfl (Nat.le_of_ble_eq_true rfl) (fs' := [.int (iI 1), .int (iI (s 0 0 0)), .int (iI ((np : Int))), .ref (a 0), .ref (a 1), .ref (a 2), .int (iI ((nl : Int))), .ref (a 3), .ref (a 4), .ref (a 5), .ref (a 6), .ref (a 7), .ref (a 8), .int (iI ((nt : Int))), .ref (a 9), .ref (a 10), .ref (a 11), .ref (a 12), .ref (a 13), .ref (a 14), .ref (a 15), .ref (a 16), .ref (a 17), .ref (a 18), .int (iI ((ns : Int))), .ref (a 19), .ref (a 20), .ref (a 21), .ref (a 22), .int (iI (s 0 0 5)), .int (iI v7), .int (iI v8), .int (iI v9), .ref (a 23), .ref (a 24), .ref (a 25), .ref (a 26)]) rfl d_Mo_part_88 ?_
              refine g_abs (X := fun M_ => MA tys M_ m a f 1 (s 0 0 0) ((np : Int)) ((nl : Int)) ((nt : Int)) ((ns : Int)) (s 0 0 5) v7 v8 v9) (MA_V hM 1 (s 0 0 0) ((np : Int)) ((nl : Int)) ((nt : Int)) ((ns : Int)) (s 0 0 5) v7 v8 v9) (fun M36 hM36 => ?_)
              refine g_aload_n C d_Mo_part_91 0 rfl ?_
              refine g_get C f_Mo_98 hM36.1 rfl d_Mo_part_92 ?_
              refine g_if_le C 100 d_Mo_part_95 rfl (by omega) (fun c37 => ?_) (fun c37 => ?_)
              · exact absurd c37 (by decide)
              · refine g_iconst C d_Mo_part_98 ?_
                exact g_iret C hr d_Mo_part_99 (Or.inr (Or.inl ⟨by omega, RM_of hM36 rfl e1.symm e2.symm e3.symm e4.symm rfl e1 e2 e3 e4 hr9 ht9⟩))
set_option maxHeartbeats 4000000 in
set_option maxRecDepth 100000 in
theorem ct_Mo_person (l : Launch) (D : va_G) (tys : xK) (A : Nat → Prop) (M : Wm) (hT : tyOK tys) (m : Nat) (s : AS) (th : Int) (np nl nt ns : Nat) (hS : okS s np nl nt ns) (hTk : TOK s nl nt ns) (z1_ z2_ z3_ : Int) (hz1 : (-2147483648 ≤ z1_ ∧ z1_ < 2147483648)) (hz2 : (-2147483648 ≤ z2_ ∧ z2_ < 2147483648)) (hz3 : (-2147483648 ≤ z3_ ∧ z3_ < 2147483648))  (hRM : RM tys M m s th) : mT l y_Mo_person b_Mo_person 4 (some .int) { frames := 1, cells := 0, slots := 0, locals := 22 } D tys A [.ref m, .int (iI z1_), .int (iI z2_), .int (iI z3_)] M (qI D A (fun z M' => (((0 ≤ z1_ ∧ z1_ ≤ 255) ∧ (0 ≤ z2_ ∧ z2_ < s 0 0 1) ∧ (0 ≤ z3_ ∧ z3_ ≤ 100000)) ∧ s 0 0 4 < 8 ∧ z = s 0 0 4 ∧ RM tys M' m (sPerson s z1_ z2_ z3_) 0) ∨ (¬ ((0 ≤ z1_ ∧ z1_ ≤ 255) ∧ (0 ≤ z2_ ∧ z2_ < s 0 0 1) ∧ (0 ≤ z3_ ∧ z3_ ≤ 100000)) ∧ RM tys M' m s 1) ∨ (((0 ≤ z1_ ∧ z1_ ≤ 255) ∧ (0 ≤ z2_ ∧ z2_ < s 0 0 1) ∧ (0 ≤ z3_ ∧ z3_ ≤ 100000)) ∧ 8 ≤ s 0 0 4 ∧ RM tys M' m s 2))) 0 0 := by
  refine met_of (own := R_Mo) (lv := [(0, .ref m), (1, .int (iI z1_)), (2, .int (iI z2_)), (3, .int (iI z3_))]) rfl (by decide) (Nat.le_of_ble_eq_true rfl) rfl ?_
  intro p_ e_ s_ m_ bl_ me_ c_ C hr hin
  have hT9 := hT
  obtain ⟨hT0, hT1, hT2, hT3, hT4, hT5, hT32, hT42, hT52, hT43, hT53, hT54⟩ := hT
  obtain ⟨a, f, v7, v8, v9, hM, hr9, ht9⟩ := RM_to hS hRM
  have hwho : -1 ≤ s 0 0 5 ∧ s 0 0 5 < (ns : Int) := by
    rcases hTk with ⟨h_, -⟩ | ⟨w_, cn_, dn_, h1_, h2_, -⟩ <;> omega
  obtain ⟨hv8, hv9, hvt⟩ := id ht9
  have hS0 := hS
  obtain ⟨⟨e1, e2, e3, e4⟩, ⟨b1_, b2_, b3_, b4_⟩, b5_, okp, oklf, okt, oku, oksp, okg, oku6⟩ := hS
  obtain ⟨rp, rl, rt, rz, re, rs⟩ := id hr9
  refine g_aload_n C d_Mo_person_0 0 rfl ?_
  refine g_iload_n C d_Mo_person_1 1 rfl ?_
  refine g_iconst C d_Mo_person_2 ?_
  refine g_sipush C d_Mo_person_3 (by decide) ?_
  refine g_calliP C (run_S C [.int (iI z1_), .int (iI 0), .int (iI 255)] k_Mo_101 (ct_Mo_in l D tys A M z1_ 0 255 (by omega)) ⟨rfl, rfl, Nat.le_of_ble_eq_true rfl, Nat.le_of_ble_eq_true rfl⟩ rfl rfl (Nat.le_of_ble_eq_true rfl) d_Mo_person_6 ⟨Nat.le_of_ble_eq_true rfl, Nat.le_of_ble_eq_true rfl⟩) (fun z1 hz1 => ?_)
  refine g_if_eq C 36 d_Mo_person_9 rfl (by omega) (fun c2 => ?_) (fun c2 => ?_)
  · refine g_iconst C d_Mo_person_36 ?_
    refine g_goto C 54 d_Mo_person_37 rfl ?_
    refine g_put C p_Mo_98 hM.1 rfl rfl (Nat.le_of_ble_eq_true rfl) (fs' := [.int (iI 1), .int (iI (s 0 0 0)), .int (iI ((np : Int))), .ref (a 0), .ref (a 1), .ref (a 2), .int (iI ((nl : Int))), .ref (a 3), .ref (a 4), .ref (a 5), .ref (a 6), .ref (a 7), .ref (a 8), .int (iI ((nt : Int))), .ref (a 9), .ref (a 10), .ref (a 11), .ref (a 12), .ref (a 13), .ref (a 14), .ref (a 15), .ref (a 16), .ref (a 17), .ref (a 18), .int (iI ((ns : Int))), .ref (a 19), .ref (a 20), .ref (a 21), .ref (a 22), .int (iI (s 0 0 5)), .int (iI v7), .int (iI v8), .int (iI v9), .ref (a 23), .ref (a 24), .ref (a 25), .ref (a 26)]) rfl d_Mo_person_54 ?_
    refine g_abs (X := fun M_ => MA tys M_ m a f 1 (s 0 0 0) ((np : Int)) ((nl : Int)) ((nt : Int)) ((ns : Int)) (s 0 0 5) v7 v8 v9) (MA_V hM 1 (s 0 0 0) ((np : Int)) ((nl : Int)) ((nt : Int)) ((ns : Int)) (s 0 0 5) v7 v8 v9) (fun M3 hM3 => ?_)
    refine g_aload_n C d_Mo_person_57 0 rfl ?_
    refine g_get C f_Mo_98 hM3.1 rfl d_Mo_person_58 ?_
    refine g_if_le C 66 d_Mo_person_61 rfl (by omega) (fun c4 => ?_) (fun c4 => ?_)
    · exact absurd c4 (by decide)
    · refine g_iconst C d_Mo_person_64 ?_
      exact g_iret C hr d_Mo_person_65 (Or.inr (Or.inl ⟨by omega, RM_of hM3 rfl e1.symm e2.symm e3.symm e4.symm rfl e1 e2 e3 e4 hr9 ht9⟩))
  · refine g_iload_n C d_Mo_person_12 2 rfl ?_
    refine g_iconst C d_Mo_person_13 ?_
    refine g_aload_n C d_Mo_person_14 0 rfl ?_
    refine g_get C f_Mo_105 hM.1 rfl d_Mo_person_15 ?_
    refine g_iconst C d_Mo_person_18 ?_
    refine g_isub C d_Mo_person_19 ?_
    refine g_calliP C (run_S C [.int (iI z2_), .int (iI 0), .int (iI (((np : Int)) - 1))] k_Mo_101 (ct_Mo_in l D tys A M z2_ 0 (((np : Int)) - 1) (by omega)) ⟨rfl, rfl, Nat.le_of_ble_eq_true rfl, Nat.le_of_ble_eq_true rfl⟩ rfl rfl (Nat.le_of_ble_eq_true rfl) d_Mo_person_20 ⟨Nat.le_of_ble_eq_true rfl, Nat.le_of_ble_eq_true rfl⟩) (fun z5 hz5 => ?_)
    refine g_if_eq C 36 d_Mo_person_23 rfl (by omega) (fun c6 => ?_) (fun c6 => ?_)
    · refine g_iconst C d_Mo_person_36 ?_
      refine g_goto C 54 d_Mo_person_37 rfl ?_
      refine g_put C p_Mo_98 hM.1 rfl rfl (Nat.le_of_ble_eq_true rfl) (fs' := [.int (iI 1), .int (iI (s 0 0 0)), .int (iI ((np : Int))), .ref (a 0), .ref (a 1), .ref (a 2), .int (iI ((nl : Int))), .ref (a 3), .ref (a 4), .ref (a 5), .ref (a 6), .ref (a 7), .ref (a 8), .int (iI ((nt : Int))), .ref (a 9), .ref (a 10), .ref (a 11), .ref (a 12), .ref (a 13), .ref (a 14), .ref (a 15), .ref (a 16), .ref (a 17), .ref (a 18), .int (iI ((ns : Int))), .ref (a 19), .ref (a 20), .ref (a 21), .ref (a 22), .int (iI (s 0 0 5)), .int (iI v7), .int (iI v8), .int (iI v9), .ref (a 23), .ref (a 24), .ref (a 25), .ref (a 26)]) rfl d_Mo_person_54 ?_
      refine g_abs (X := fun M_ => MA tys M_ m a f 1 (s 0 0 0) ((np : Int)) ((nl : Int)) ((nt : Int)) ((ns : Int)) (s 0 0 5) v7 v8 v9) (MA_V hM 1 (s 0 0 0) ((np : Int)) ((nl : Int)) ((nt : Int)) ((ns : Int)) (s 0 0 5) v7 v8 v9) (fun M7 hM7 => ?_)
      refine g_aload_n C d_Mo_person_57 0 rfl ?_
      refine g_get C f_Mo_98 hM7.1 rfl d_Mo_person_58 ?_
      refine g_if_le C 66 d_Mo_person_61 rfl (by omega) (fun c8 => ?_) (fun c8 => ?_)
      · exact absurd c8 (by decide)
      · refine g_iconst C d_Mo_person_64 ?_
        exact g_iret C hr d_Mo_person_65 (Or.inr (Or.inl ⟨by omega, RM_of hM7 rfl e1.symm e2.symm e3.symm e4.symm rfl e1 e2 e3 e4 hr9 ht9⟩))
    · refine g_iload_n C d_Mo_person_26 3 rfl ?_
      refine g_iconst C d_Mo_person_27 ?_
      refine g_ldc C 100000 q_Mo_114 d_Mo_person_28 ?_
      refine g_calliP C (run_S C [.int (iI z3_), .int (iI 0), .int (iI 100000)] k_Mo_101 (ct_Mo_in l D tys A M z3_ 0 100000 (by omega)) ⟨rfl, rfl, Nat.le_of_ble_eq_true rfl, Nat.le_of_ble_eq_true rfl⟩ rfl rfl (Nat.le_of_ble_eq_true rfl) d_Mo_person_30 ⟨Nat.le_of_ble_eq_true rfl, Nat.le_of_ble_eq_true rfl⟩) (fun z9 hz9 => ?_)
      refine g_if_ne C 40 d_Mo_person_33 rfl (by omega) (fun c10 => ?_) (fun c10 => ?_)
      · refine g_aload_n C d_Mo_person_40 0 rfl ?_
        refine g_get C f_Mo_115 hM.1 rfl d_Mo_person_41 ?_
        refine g_bipush C d_Mo_person_44 (by decide) ?_
        refine g_icmp_ne C 53 d_Mo_person_46 rfl (by omega) (fun c11 => ?_) (fun c11 => ?_)
        · refine g_iconst C d_Mo_person_53 ?_
          refine g_put C p_Mo_98 hM.1 rfl rfl (Nat.le_of_ble_eq_true rfl) (fs' := [.int (iI 0), .int (iI (s 0 0 0)), .int (iI ((np : Int))), .ref (a 0), .ref (a 1), .ref (a 2), .int (iI ((nl : Int))), .ref (a 3), .ref (a 4), .ref (a 5), .ref (a 6), .ref (a 7), .ref (a 8), .int (iI ((nt : Int))), .ref (a 9), .ref (a 10), .ref (a 11), .ref (a 12), .ref (a 13), .ref (a 14), .ref (a 15), .ref (a 16), .ref (a 17), .ref (a 18), .int (iI ((ns : Int))), .ref (a 19), .ref (a 20), .ref (a 21), .ref (a 22), .int (iI (s 0 0 5)), .int (iI v7), .int (iI v8), .int (iI v9), .ref (a 23), .ref (a 24), .ref (a 25), .ref (a 26)]) rfl d_Mo_person_54 ?_
          refine g_abs (X := fun M_ => MA tys M_ m a f 0 (s 0 0 0) ((np : Int)) ((nl : Int)) ((nt : Int)) ((ns : Int)) (s 0 0 5) v7 v8 v9) (MA_V hM 0 (s 0 0 0) ((np : Int)) ((nl : Int)) ((nt : Int)) ((ns : Int)) (s 0 0 5) v7 v8 v9) (fun M12 hM12 => ?_)
          refine g_aload_n C d_Mo_person_57 0 rfl ?_
          refine g_get C f_Mo_98 hM12.1 rfl d_Mo_person_58 ?_
          refine g_if_le C 66 d_Mo_person_61 rfl (by omega) (fun c13 => ?_) (fun c13 => ?_)
          · refine g_aload_n C d_Mo_person_66 0 rfl ?_
            refine g_get C f_Mo_67 hM12.1 rfl d_Mo_person_67 ?_
            refine g_aload_n C d_Mo_person_70 0 rfl ?_
            refine g_get C f_Mo_115 hM12.1 rfl d_Mo_person_71 ?_
            refine g_iload_n C d_Mo_person_74 1 rfl ?_
            refine g_iastN C 0 hT0 (show M12 (a 19) = some (aI tys 8 (f 19)) from hM12.2.1 19 (by decide)) ns (by omega) (by omega) d_Mo_person_75 ?_ rfl
            refine g_abs (X := fun M_ => MA tys M_ m a (va_up f 19 (va_up (f 19) ns z1_)) 0 (s 0 0 0) ((np : Int)) ((nl : Int)) ((nt : Int)) ((ns : Int)) (s 0 0 5) v7 v8 v9) (MA_F hM12 19 (by decide) (va_up (f 19) ns z1_) rfl) (fun M14 hM14 => ?_)
            refine g_aload_n C d_Mo_person_76 0 rfl ?_
            refine g_get C f_Mo_70 hM14.1 rfl d_Mo_person_77 ?_
            refine g_aload_n C d_Mo_person_80 0 rfl ?_
            refine g_get C f_Mo_115 hM14.1 rfl d_Mo_person_81 ?_
            refine g_iload_n C d_Mo_person_84 2 rfl ?_
            refine g_iastN C 0 hT0 (show M14 (a 20) = some (aI tys 8 (f 20)) from hM14.2.1 20 (by decide)) ns (by omega) (by omega) d_Mo_person_85 ?_ rfl
            refine g_abs (X := fun M_ => MA tys M_ m a (va_up (va_up f 19 (va_up (f 19) ns z1_)) 20 (va_up (f 20) ns z2_)) 0 (s 0 0 0) ((np : Int)) ((nl : Int)) ((nt : Int)) ((ns : Int)) (s 0 0 5) v7 v8 v9) (MA_F hM14 20 (by decide) (va_up (f 20) ns z2_) rfl) (fun M15 hM15 => ?_)
            refine g_aload_n C d_Mo_person_86 0 rfl ?_
            refine g_get C f_Mo_73 hM15.1 rfl d_Mo_person_87 ?_
            refine g_aload_n C d_Mo_person_90 0 rfl ?_
            refine g_get C f_Mo_115 hM15.1 rfl d_Mo_person_91 ?_
            refine g_iload_n C d_Mo_person_94 3 rfl ?_
            refine g_iastN C 0 hT0 (show M15 (a 21) = some (aI tys 8 (f 21)) from hM15.2.1 21 (by decide)) ns (by omega) (by omega) d_Mo_person_95 ?_ rfl
            refine g_abs (X := fun M_ => MA tys M_ m a (va_up (va_up (va_up f 19 (va_up (f 19) ns z1_)) 20 (va_up (f 20) ns z2_)) 21 (va_up (f 21) ns z3_)) 0 (s 0 0 0) ((np : Int)) ((nl : Int)) ((nt : Int)) ((ns : Int)) (s 0 0 5) v7 v8 v9) (MA_F hM15 21 (by decide) (va_up (f 21) ns z3_) rfl) (fun M16 hM16 => ?_)
            refine g_aload_n C d_Mo_person_96 0 rfl ?_
            refine g_dup C rfl d_Mo_person_97 ?_
            refine g_get C f_Mo_115 hM16.1 rfl d_Mo_person_98 ?_
            refine g_iconst C d_Mo_person_101 ?_
            refine g_iadd C d_Mo_person_102 ?_
            refine g_put C p_Mo_115 hM16.1 rfl rfl (Nat.le_of_ble_eq_true rfl) (fs' := [.int (iI 0), .int (iI (s 0 0 0)), .int (iI ((np : Int))), .ref (a 0), .ref (a 1), .ref (a 2), .int (iI ((nl : Int))), .ref (a 3), .ref (a 4), .ref (a 5), .ref (a 6), .ref (a 7), .ref (a 8), .int (iI ((nt : Int))), .ref (a 9), .ref (a 10), .ref (a 11), .ref (a 12), .ref (a 13), .ref (a 14), .ref (a 15), .ref (a 16), .ref (a 17), .ref (a 18), .int (iI (((ns : Int)) + 1)), .ref (a 19), .ref (a 20), .ref (a 21), .ref (a 22), .int (iI (s 0 0 5)), .int (iI v7), .int (iI v8), .int (iI v9), .ref (a 23), .ref (a 24), .ref (a 25), .ref (a 26)]) rfl d_Mo_person_103 ?_
            refine g_abs (X := fun M_ => MA tys M_ m a (va_up (va_up (va_up f 19 (va_up (f 19) ns z1_)) 20 (va_up (f 20) ns z2_)) 21 (va_up (f 21) ns z3_)) 0 (s 0 0 0) ((np : Int)) ((nl : Int)) ((nt : Int)) (((ns : Int)) + 1) (s 0 0 5) v7 v8 v9) (MA_V hM16 0 (s 0 0 0) ((np : Int)) ((nl : Int)) ((nt : Int)) (((ns : Int)) + 1) (s 0 0 5) v7 v8 v9) (fun M17 hM17 => ?_)
            refine g_aload_n C d_Mo_person_106 0 rfl ?_
            refine g_iconst C d_Mo_person_107 ?_
            refine g_put C p_Mo_79 hM17.1 rfl rfl (Nat.le_of_ble_eq_true rfl) (fs' := [.int (iI 0), .int (iI (s 0 0 0)), .int (iI ((np : Int))), .ref (a 0), .ref (a 1), .ref (a 2), .int (iI ((nl : Int))), .ref (a 3), .ref (a 4), .ref (a 5), .ref (a 6), .ref (a 7), .ref (a 8), .int (iI ((nt : Int))), .ref (a 9), .ref (a 10), .ref (a 11), .ref (a 12), .ref (a 13), .ref (a 14), .ref (a 15), .ref (a 16), .ref (a 17), .ref (a 18), .int (iI (((ns : Int)) + 1)), .ref (a 19), .ref (a 20), .ref (a 21), .ref (a 22), .int (iI ((-1))), .int (iI v7), .int (iI v8), .int (iI v9), .ref (a 23), .ref (a 24), .ref (a 25), .ref (a 26)]) rfl d_Mo_person_108 ?_
            refine g_abs (X := fun M_ => MA tys M_ m a (va_up (va_up (va_up f 19 (va_up (f 19) ns z1_)) 20 (va_up (f 20) ns z2_)) 21 (va_up (f 21) ns z3_)) 0 (s 0 0 0) ((np : Int)) ((nl : Int)) ((nt : Int)) (((ns : Int)) + 1) ((-1)) v7 v8 v9) (MA_V hM17 0 (s 0 0 0) ((np : Int)) ((nl : Int)) ((nt : Int)) (((ns : Int)) + 1) ((-1)) v7 v8 v9) (fun M18 hM18 => ?_)
            refine g_aload_n C d_Mo_person_111 0 rfl ?_
            refine g_get C f_Mo_115 hM18.1 rfl d_Mo_person_112 ?_
            refine g_iconst C d_Mo_person_115 ?_
            refine g_isub C d_Mo_person_116 ?_
            exact g_iret C hr d_Mo_person_117 (Or.inl ⟨by omega, by omega, by omega, RM_of (s := sPerson s z1_ z2_ z3_) hM18 rfl e1.symm e2.symm e3.symm (by show _ = s 0 0 4 + 1; omega) rfl e1 e2 e3 (ns := ns + 1) (by show s 0 0 4 + 1 = _; omega) (mR_person hr9 e4) ⟨hv8, hv9, fun h_ => absurd rfl h_⟩⟩)
          · exact absurd c13 (by decide)
        · refine g_iconst C d_Mo_person_49 ?_
          refine g_goto C 54 d_Mo_person_50 rfl ?_
          refine g_put C p_Mo_98 hM.1 rfl rfl (Nat.le_of_ble_eq_true rfl) (fs' := [.int (iI 2), .int (iI (s 0 0 0)), .int (iI ((np : Int))), .ref (a 0), .ref (a 1), .ref (a 2), .int (iI ((nl : Int))), .ref (a 3), .ref (a 4), .ref (a 5), .ref (a 6), .ref (a 7), .ref (a 8), .int (iI ((nt : Int))), .ref (a 9), .ref (a 10), .ref (a 11), .ref (a 12), .ref (a 13), .ref (a 14), .ref (a 15), .ref (a 16), .ref (a 17), .ref (a 18), .int (iI ((ns : Int))), .ref (a 19), .ref (a 20), .ref (a 21), .ref (a 22), .int (iI (s 0 0 5)), .int (iI v7), .int (iI v8), .int (iI v9), .ref (a 23), .ref (a 24), .ref (a 25), .ref (a 26)]) rfl d_Mo_person_54 ?_
          refine g_abs (X := fun M_ => MA tys M_ m a f 2 (s 0 0 0) ((np : Int)) ((nl : Int)) ((nt : Int)) ((ns : Int)) (s 0 0 5) v7 v8 v9) (MA_V hM 2 (s 0 0 0) ((np : Int)) ((nl : Int)) ((nt : Int)) ((ns : Int)) (s 0 0 5) v7 v8 v9) (fun M19 hM19 => ?_)
          refine g_aload_n C d_Mo_person_57 0 rfl ?_
          refine g_get C f_Mo_98 hM19.1 rfl d_Mo_person_58 ?_
          refine g_if_le C 66 d_Mo_person_61 rfl (by omega) (fun c20 => ?_) (fun c20 => ?_)
          · exact absurd c20 (by decide)
          · refine g_iconst C d_Mo_person_64 ?_
            exact g_iret C hr d_Mo_person_65 (Or.inr (Or.inr ⟨by omega, by omega, RM_of hM19 rfl e1.symm e2.symm e3.symm e4.symm rfl e1 e2 e3 e4 hr9 ht9⟩))
      · refine g_iconst C d_Mo_person_36 ?_
        refine g_goto C 54 d_Mo_person_37 rfl ?_
        refine g_put C p_Mo_98 hM.1 rfl rfl (Nat.le_of_ble_eq_true rfl) (fs' := [.int (iI 1), .int (iI (s 0 0 0)), .int (iI ((np : Int))), .ref (a 0), .ref (a 1), .ref (a 2), .int (iI ((nl : Int))), .ref (a 3), .ref (a 4), .ref (a 5), .ref (a 6), .ref (a 7), .ref (a 8), .int (iI ((nt : Int))), .ref (a 9), .ref (a 10), .ref (a 11), .ref (a 12), .ref (a 13), .ref (a 14), .ref (a 15), .ref (a 16), .ref (a 17), .ref (a 18), .int (iI ((ns : Int))), .ref (a 19), .ref (a 20), .ref (a 21), .ref (a 22), .int (iI (s 0 0 5)), .int (iI v7), .int (iI v8), .int (iI v9), .ref (a 23), .ref (a 24), .ref (a 25), .ref (a 26)]) rfl d_Mo_person_54 ?_
        refine g_abs (X := fun M_ => MA tys M_ m a f 1 (s 0 0 0) ((np : Int)) ((nl : Int)) ((nt : Int)) ((ns : Int)) (s 0 0 5) v7 v8 v9) (MA_V hM 1 (s 0 0 0) ((np : Int)) ((nl : Int)) ((nt : Int)) ((ns : Int)) (s 0 0 5) v7 v8 v9) (fun M21 hM21 => ?_)
        refine g_aload_n C d_Mo_person_57 0 rfl ?_
        refine g_get C f_Mo_98 hM21.1 rfl d_Mo_person_58 ?_
        refine g_if_le C 66 d_Mo_person_61 rfl (by omega) (fun c22 => ?_) (fun c22 => ?_)
        · exact absurd c22 (by decide)
        · refine g_iconst C d_Mo_person_64 ?_
          exact g_iret C hr d_Mo_person_65 (Or.inr (Or.inl ⟨by omega, RM_of hM21 rfl e1.symm e2.symm e3.symm e4.symm rfl e1 e2 e3 e4 hr9 ht9⟩))
set_option maxHeartbeats 4000000 in
set_option maxRecDepth 100000 in
theorem ct_Mo_stock (l : Launch) (D : va_G) (tys : xK) (A : Nat → Prop) (M : Wm) (hT : tyOK tys) (m : Nat) (s : AS) (th : Int) (np nl nt ns : Nat) (hS : okS s np nl nt ns) (hTk : TOK s nl nt ns) (z1_ z2_ : Int) (hz1 : (-2147483648 ≤ z1_ ∧ z1_ < 2147483648)) (hz2 : (-2147483648 ≤ z2_ ∧ z2_ < 2147483648))  (hRM : RM tys M m s th) : mT l y_Mo_stock b_Mo_stock 3 (some .int) { frames := 1, cells := 0, slots := 0, locals := 22 } D tys A [.ref m, .int (iI z1_), .int (iI z2_)] M (qI D A (fun z M' => (((0 ≤ z1_ ∧ z1_ ≤ 4) ∧ (1 ≤ z2_ ∧ z2_ ≤ 1000)) ∧ z = s 5 0 z1_.toNat + z2_ ∧ RM tys M' m (sStk s z1_.toNat z2_) 0) ∨ (¬ ((0 ≤ z1_ ∧ z1_ ≤ 4) ∧ (1 ≤ z2_ ∧ z2_ ≤ 1000)) ∧ RM tys M' m s 1))) 0 0 := by
  refine met_of (own := R_Mo) (lv := [(0, .ref m), (1, .int (iI z1_)), (2, .int (iI z2_))]) rfl (by decide) (Nat.le_of_ble_eq_true rfl) rfl ?_
  intro p_ e_ s_ m_ bl_ me_ c_ C hr hin
  have hT9 := hT
  obtain ⟨hT0, hT1, hT2, hT3, hT4, hT5, hT32, hT42, hT52, hT43, hT53, hT54⟩ := hT
  obtain ⟨a, f, v7, v8, v9, hM, hr9, ht9⟩ := RM_to hS hRM
  have hwho : -1 ≤ s 0 0 5 ∧ s 0 0 5 < (ns : Int) := by
    rcases hTk with ⟨h_, -⟩ | ⟨w_, cn_, dn_, h1_, h2_, -⟩ <;> omega
  obtain ⟨hv8, hv9, hvt⟩ := id ht9
  have hS0 := hS
  obtain ⟨⟨e1, e2, e3, e4⟩, ⟨b1_, b2_, b3_, b4_⟩, b5_, okp, oklf, okt, oku, oksp, okg, oku6⟩ := hS
  obtain ⟨rp, rl, rt, rz, re, rs⟩ := id hr9
  refine g_aload_n C d_Mo_stock_0 0 rfl ?_
  refine g_iload_n C d_Mo_stock_1 1 rfl ?_
  refine g_iconst C d_Mo_stock_2 ?_
  refine g_iconst C d_Mo_stock_3 ?_
  refine g_calliP C (run_S C [.int (iI z1_), .int (iI 0), .int (iI 4)] k_Mo_101 (ct_Mo_in l D tys A M z1_ 0 4 (by omega)) ⟨rfl, rfl, Nat.le_of_ble_eq_true rfl, Nat.le_of_ble_eq_true rfl⟩ rfl rfl (Nat.le_of_ble_eq_true rfl) d_Mo_stock_4 ⟨Nat.le_of_ble_eq_true rfl, Nat.le_of_ble_eq_true rfl⟩) (fun z1 hz1 => ?_)
  refine g_if_eq C 21 d_Mo_stock_7 rfl (by omega) (fun c2 => ?_) (fun c2 => ?_)
  · refine g_iconst C d_Mo_stock_21 ?_
    refine g_goto C 26 d_Mo_stock_22 rfl ?_
    refine g_put C p_Mo_98 hM.1 rfl rfl (Nat.le_of_ble_eq_true rfl) (fs' := [.int (iI 1), .int (iI (s 0 0 0)), .int (iI ((np : Int))), .ref (a 0), .ref (a 1), .ref (a 2), .int (iI ((nl : Int))), .ref (a 3), .ref (a 4), .ref (a 5), .ref (a 6), .ref (a 7), .ref (a 8), .int (iI ((nt : Int))), .ref (a 9), .ref (a 10), .ref (a 11), .ref (a 12), .ref (a 13), .ref (a 14), .ref (a 15), .ref (a 16), .ref (a 17), .ref (a 18), .int (iI ((ns : Int))), .ref (a 19), .ref (a 20), .ref (a 21), .ref (a 22), .int (iI (s 0 0 5)), .int (iI v7), .int (iI v8), .int (iI v9), .ref (a 23), .ref (a 24), .ref (a 25), .ref (a 26)]) rfl d_Mo_stock_26 ?_
    refine g_abs (X := fun M_ => MA tys M_ m a f 1 (s 0 0 0) ((np : Int)) ((nl : Int)) ((nt : Int)) ((ns : Int)) (s 0 0 5) v7 v8 v9) (MA_V hM 1 (s 0 0 0) ((np : Int)) ((nl : Int)) ((nt : Int)) ((ns : Int)) (s 0 0 5) v7 v8 v9) (fun M3 hM3 => ?_)
    refine g_aload_n C d_Mo_stock_29 0 rfl ?_
    refine g_get C f_Mo_98 hM3.1 rfl d_Mo_stock_30 ?_
    refine g_if_le C 38 d_Mo_stock_33 rfl (by omega) (fun c4 => ?_) (fun c4 => ?_)
    · exact absurd c4 (by decide)
    · refine g_iconst C d_Mo_stock_36 ?_
      exact g_iret C hr d_Mo_stock_37 (Or.inr ⟨by omega, RM_of hM3 rfl e1.symm e2.symm e3.symm e4.symm rfl e1 e2 e3 e4 hr9 ht9⟩)
  · refine g_iload_n C d_Mo_stock_10 2 rfl ?_
    refine g_iconst C d_Mo_stock_11 ?_
    refine g_sipush C d_Mo_stock_12 (by decide) ?_
    refine g_calliP C (run_S C [.int (iI z2_), .int (iI 1), .int (iI 1000)] k_Mo_101 (ct_Mo_in l D tys A M z2_ 1 1000 (by omega)) ⟨rfl, rfl, Nat.le_of_ble_eq_true rfl, Nat.le_of_ble_eq_true rfl⟩ rfl rfl (Nat.le_of_ble_eq_true rfl) d_Mo_stock_15 ⟨Nat.le_of_ble_eq_true rfl, Nat.le_of_ble_eq_true rfl⟩) (fun z5 hz5 => ?_)
    refine g_if_ne C 25 d_Mo_stock_18 rfl (by omega) (fun c6 => ?_) (fun c6 => ?_)
    · refine g_iconst C d_Mo_stock_25 ?_
      refine g_put C p_Mo_98 hM.1 rfl rfl (Nat.le_of_ble_eq_true rfl) (fs' := [.int (iI 0), .int (iI (s 0 0 0)), .int (iI ((np : Int))), .ref (a 0), .ref (a 1), .ref (a 2), .int (iI ((nl : Int))), .ref (a 3), .ref (a 4), .ref (a 5), .ref (a 6), .ref (a 7), .ref (a 8), .int (iI ((nt : Int))), .ref (a 9), .ref (a 10), .ref (a 11), .ref (a 12), .ref (a 13), .ref (a 14), .ref (a 15), .ref (a 16), .ref (a 17), .ref (a 18), .int (iI ((ns : Int))), .ref (a 19), .ref (a 20), .ref (a 21), .ref (a 22), .int (iI (s 0 0 5)), .int (iI v7), .int (iI v8), .int (iI v9), .ref (a 23), .ref (a 24), .ref (a 25), .ref (a 26)]) rfl d_Mo_stock_26 ?_
      refine g_abs (X := fun M_ => MA tys M_ m a f 0 (s 0 0 0) ((np : Int)) ((nl : Int)) ((nt : Int)) ((ns : Int)) (s 0 0 5) v7 v8 v9) (MA_V hM 0 (s 0 0 0) ((np : Int)) ((nl : Int)) ((nt : Int)) ((ns : Int)) (s 0 0 5) v7 v8 v9) (fun M7 hM7 => ?_)
      refine g_aload_n C d_Mo_stock_29 0 rfl ?_
      refine g_get C f_Mo_98 hM7.1 rfl d_Mo_stock_30 ?_
      refine g_if_le C 38 d_Mo_stock_33 rfl (by omega) (fun c8 => ?_) (fun c8 => ?_)
      · obtain ⟨i, rfl⟩ : ∃ i : Nat, z1_ = (i : Int) := ⟨z1_.toNat, by omega⟩
        have hsi := rs i
        have hsp := oksp i
        refine g_aload_n C d_Mo_stock_38 0 rfl ?_
        refine g_get C f_Mo_76 hM7.1 rfl d_Mo_stock_39 ?_
        refine g_iload_n C d_Mo_stock_42 1 rfl ?_
        refine g_dup2 C rfl rfl d_Mo_stock_43 ?_
        refine g_ialdN C 0 hT0 (show M7 (a 22) = some (aI tys 5 (f 22)) from hM7.2.1 22 (by decide)) i (by omega) (by omega) d_Mo_stock_44 ?_
        rw [hsi]
        refine g_iload_n C d_Mo_stock_45 2 rfl ?_
        refine g_iadd C d_Mo_stock_46 ?_
        refine g_iastN C 0 hT0 (show M7 (a 22) = some (aI tys 5 (f 22)) from hM7.2.1 22 (by decide)) i (by omega) (by omega) d_Mo_stock_47 ?_ rfl
        refine g_abs (X := fun M_ => MA tys M_ m a (va_up f 22 (va_up (f 22) i ((s 5 0 i) + z2_))) 0 (s 0 0 0) ((np : Int)) ((nl : Int)) ((nt : Int)) ((ns : Int)) (s 0 0 5) v7 v8 v9) (MA_F hM7 22 (by decide) (va_up (f 22) i ((s 5 0 i) + z2_)) rfl) (fun M9 hM9 => ?_)
        refine g_aload_n C d_Mo_stock_48 0 rfl ?_
        refine g_get C f_Mo_76 hM9.1 rfl d_Mo_stock_49 ?_
        refine g_iload_n C d_Mo_stock_52 1 rfl ?_
        refine g_ialdN C 0 hT0 (show M9 (a 22) = some (aI tys 5 (va_up (f 22) i ((s 5 0 i) + z2_))) from hM9.2.1 22 (by decide)) i (by omega) (by omega) d_Mo_stock_53 ?_
        rw [iu_s]
        exact g_iret C hr d_Mo_stock_54 (Or.inl ⟨by omega, rfl, RM_of (s := sStk s i z2_) hM9 rfl e1.symm e2.symm e3.symm e4.symm rfl e1 e2 e3 e4 (mR_stk hr9) ht9⟩)
      · exact absurd c8 (by decide)
    · refine g_iconst C d_Mo_stock_21 ?_
      refine g_goto C 26 d_Mo_stock_22 rfl ?_
      refine g_put C p_Mo_98 hM.1 rfl rfl (Nat.le_of_ble_eq_true rfl) (fs' := [.int (iI 1), .int (iI (s 0 0 0)), .int (iI ((np : Int))), .ref (a 0), .ref (a 1), .ref (a 2), .int (iI ((nl : Int))), .ref (a 3), .ref (a 4), .ref (a 5), .ref (a 6), .ref (a 7), .ref (a 8), .int (iI ((nt : Int))), .ref (a 9), .ref (a 10), .ref (a 11), .ref (a 12), .ref (a 13), .ref (a 14), .ref (a 15), .ref (a 16), .ref (a 17), .ref (a 18), .int (iI ((ns : Int))), .ref (a 19), .ref (a 20), .ref (a 21), .ref (a 22), .int (iI (s 0 0 5)), .int (iI v7), .int (iI v8), .int (iI v9), .ref (a 23), .ref (a 24), .ref (a 25), .ref (a 26)]) rfl d_Mo_stock_26 ?_
      refine g_abs (X := fun M_ => MA tys M_ m a f 1 (s 0 0 0) ((np : Int)) ((nl : Int)) ((nt : Int)) ((ns : Int)) (s 0 0 5) v7 v8 v9) (MA_V hM 1 (s 0 0 0) ((np : Int)) ((nl : Int)) ((nt : Int)) ((ns : Int)) (s 0 0 5) v7 v8 v9) (fun M10 hM10 => ?_)
      refine g_aload_n C d_Mo_stock_29 0 rfl ?_
      refine g_get C f_Mo_98 hM10.1 rfl d_Mo_stock_30 ?_
      refine g_if_le C 38 d_Mo_stock_33 rfl (by omega) (fun c11 => ?_) (fun c11 => ?_)
      · exact absurd c11 (by decide)
      · refine g_iconst C d_Mo_stock_36 ?_
        exact g_iret C hr d_Mo_stock_37 (Or.inr ⟨by omega, RM_of hM10 rfl e1.symm e2.symm e3.symm e4.symm rfl e1 e2 e3 e4 hr9 ht9⟩)
