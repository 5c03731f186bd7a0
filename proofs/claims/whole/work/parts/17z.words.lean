/-! WORDS of what is made: written by program -/
theorem ne_new {M : Wm} {b q : Nat} {x : va_E} (hq : M q = none) (hb : M b = some x) : b ≠ q := by
  intro e
  rw [e, hq] at hb
  cases hb
theorem oi_Ct_1 : Cond.methodLink R_Ct 1 Lib.objectInit ∈ xAll ∧ Cond.instanceMethod Lib.objectInit ∈ xAll ∧ Cond.code Lib.objectInit ⟨#[0xb1]⟩ 1 none ∈ xAll := ⟨xa_t 21 (by decide +kernel) rfl, xa_t 22 (by decide +kernel) rfl, xa_t 23 (by decide +kernel) rfl⟩
theorem nw_Ct_7 : xN R_Ct 7 0 [.null, .null, .int (iI 0), .int (iI 0)] 4 := ⟨R_Ho, F_Ho, t_Ho, rfl, in_Ho, tk_Ho, xa_t 24 (by decide +kernel) rfl, xa_t 25 (by decide +kernel) rfl, xa_t 2 (by decide +kernel) rfl, by decide +kernel⟩
theorem na_Ct_16 : Cond.classLink R_Ct 16 "CareTours$Part" ∈ xAll ∧ Cond.arrayOver (.object "CareTours$Part") ∈ xNw := ⟨xa_t 50 (by decide +kernel) rfl, xn_t 51 (by decide +kernel) rfl⟩
theorem na_Ct_25 : Cond.classLink R_Ct 25 "CareTours$Person" ∈ xAll ∧ Cond.arrayOver (.object "CareTours$Person") ∈ xNw := ⟨xa_t 52 (by decide +kernel) rfl, xn_t 53 (by decide +kernel) rfl⟩
theorem nw_Ct_35 : xN R_Ct 35 5 [.null, .null, .null, .int (iI 0)] 4 := ⟨R_Pn, F_Pn, t_Pn, rfl, in_Pn, tk_Pn, xa_t 54 (by decide +kernel) rfl, xa_t 55 (by decide +kernel) rfl, xa_t 3 (by decide +kernel) rfl, by decide +kernel⟩
theorem nw_Ct_42 : xN R_Ct 42 6 [.null, .null, .int (iI 0), .int (iI 0), .int (iI 0), .int (iI 0), .int (iI 0)] 7 := ⟨R_To, F_To, t_To, rfl, in_To, tk_To, xa_t 75 (by decide +kernel) rfl, xa_t 76 (by decide +kernel) rfl, xa_t 4 (by decide +kernel) rfl, by decide +kernel⟩
theorem cl_Ct_76 : Cond.classLink R_Ct 76 "java/lang/IllegalArgumentException" ∈ xAll := xa_t 167 (by decide +kernel) rfl
theorem cl_Ct_86 : Cond.classLink R_Ct 86 "java/lang/IllegalStateException" ∈ xAll := xa_t 234 (by decide +kernel) rfl
theorem nw_Ct_94 : xN R_Ct 94 4 [.int (iI 0), .int (iI 0), .int (iI 0)] 3 := ⟨R_Pl, F_Pl, t_Pl, rfl, in_Pl, tk_Pl, xa_t 254 (by decide +kernel) rfl, xa_t 255 (by decide +kernel) rfl, xa_t 12 (by decide +kernel) rfl, by decide +kernel⟩
theorem nw_Ct_112 : xN R_Ct 112 1 [.int (iI 0), .int (iI 0), .int (iI 0), .int (iI 0), .int (iI 0), .int (iI 0)] 6 := ⟨R_Li, F_Li, t_Li, rfl, in_Li, tk_Li, xa_t 288 (by decide +kernel) rfl, xa_t 289 (by decide +kernel) rfl, xa_t 13 (by decide +kernel) rfl, by decide +kernel⟩
theorem nw_Ct_16 : xN R_Ct 16 2 [.int (iI 0), .null, .int (iI 0), .int (iI 0), .int (iI 0), .int (iI 0), .int (iI 0), .int (iI 0), .int (iI 0), .int (iI 0), .int (iI 0)] 11 := ⟨R_Pt, F_Pt, t_Pt, rfl, in_Pt, tk_Pt, xa_t 50 (by decide +kernel) rfl, xa_t 335 (by decide +kernel) rfl, xa_t 14 (by decide +kernel) rfl, by decide +kernel⟩
theorem nw_Ct_25 : xN R_Ct 25 3 [.int (iI 0), .int (iI 0), .null, .int (iI 0)] 4 := ⟨R_Pe, F_Pe, t_Pe, rfl, in_Pe, tk_Pe, xa_t 52 (by decide +kernel) rfl, xa_t 396 (by decide +kernel) rfl, xa_t 15 (by decide +kernel) rfl, by decide +kernel⟩
theorem oi_Mo_1 : Cond.methodLink R_Mo 1 Lib.objectInit ∈ xAll ∧ Cond.instanceMethod Lib.objectInit ∈ xAll ∧ Cond.code Lib.objectInit ⟨#[0xb1]⟩ 1 none ∈ xAll := ⟨xa_t 669 (by decide +kernel) rfl, xa_t 22 (by decide +kernel) rfl, xa_t 23 (by decide +kernel) rfl⟩
theorem oi_Ho_3 : Cond.methodLink R_Ho 3 Lib.objectInit ∈ xAll ∧ Cond.instanceMethod Lib.objectInit ∈ xAll ∧ Cond.code Lib.objectInit ⟨#[0xb1]⟩ 1 none ∈ xAll := ⟨xa_t 29 (by decide +kernel) rfl, xa_t 22 (by decide +kernel) rfl, xa_t 23 (by decide +kernel) rfl⟩
theorem na_Ho_9 : Cond.classLink R_Ho 9 "CareTours$Place" ∈ xAll ∧ Cond.arrayOver (.object "CareTours$Place") ∈ xNw := ⟨xa_t 30 (by decide +kernel) rfl, xn_t 31 (by decide +kernel) rfl⟩
theorem na_Ho_17 : Cond.classLink R_Ho 17 "CareTours$Lift" ∈ xAll ∧ Cond.arrayOver (.object "CareTours$Lift") ∈ xNw := ⟨xa_t 32 (by decide +kernel) rfl, xn_t 33 (by decide +kernel) rfl⟩
theorem oi_Li_1 : Cond.methodLink R_Li 1 Lib.objectInit ∈ xAll ∧ Cond.instanceMethod Lib.objectInit ∈ xAll ∧ Cond.code Lib.objectInit ⟨#[0xb1]⟩ 1 none ∈ xAll := ⟨xa_t 293 (by decide +kernel) rfl, xa_t 22 (by decide +kernel) rfl, xa_t 23 (by decide +kernel) rfl⟩
theorem oi_Pt_3 : Cond.methodLink R_Pt 3 Lib.objectInit ∈ xAll ∧ Cond.instanceMethod Lib.objectInit ∈ xAll ∧ Cond.code Lib.objectInit ⟨#[0xb1]⟩ 1 none ∈ xAll := ⟨xa_t 339 (by decide +kernel) rfl, xa_t 22 (by decide +kernel) rfl, xa_t 23 (by decide +kernel) rfl⟩
theorem oi_Pe_1 : Cond.methodLink R_Pe 1 Lib.objectInit ∈ xAll ∧ Cond.instanceMethod Lib.objectInit ∈ xAll ∧ Cond.code Lib.objectInit ⟨#[0xb1]⟩ 1 none ∈ xAll := ⟨xa_t 400 (by decide +kernel) rfl, xa_t 22 (by decide +kernel) rfl, xa_t 23 (by decide +kernel) rfl⟩
theorem oi_Pl_1 : Cond.methodLink R_Pl 1 Lib.objectInit ∈ xAll ∧ Cond.instanceMethod Lib.objectInit ∈ xAll ∧ Cond.code Lib.objectInit ⟨#[0xb1]⟩ 1 none ∈ xAll := ⟨xa_t 259 (by decide +kernel) rfl, xa_t 22 (by decide +kernel) rfl, xa_t 23 (by decide +kernel) rfl⟩
theorem oi_Pn_5 : Cond.methodLink R_Pn 5 Lib.objectInit ∈ xAll ∧ Cond.instanceMethod Lib.objectInit ∈ xAll ∧ Cond.code Lib.objectInit ⟨#[0xb1]⟩ 1 none ∈ xAll := ⟨xa_t 59 (by decide +kernel) rfl, xa_t 22 (by decide +kernel) rfl, xa_t 23 (by decide +kernel) rfl⟩
theorem na_Pn_11 : Cond.classLink R_Pn 11 "CareTours$Part" ∈ xAll ∧ Cond.arrayOver (.object "CareTours$Part") ∈ xNw := ⟨xa_t 60 (by decide +kernel) rfl, xn_t 51 (by decide +kernel) rfl⟩
theorem oi_To_3 : Cond.methodLink R_To 3 Lib.objectInit ∈ xAll ∧ Cond.instanceMethod Lib.objectInit ∈ xAll ∧ Cond.code Lib.objectInit ⟨#[0xb1]⟩ 1 none ∈ xAll := ⟨xa_t 80 (by decide +kernel) rfl, xa_t 22 (by decide +kernel) rfl, xa_t 23 (by decide +kernel) rfl⟩
theorem na_To_9 : Cond.classLink R_To 9 "CareTours$Part" ∈ xAll ∧ Cond.arrayOver (.object "CareTours$Part") ∈ xNw := ⟨xa_t 81 (by decide +kernel) rfl, xn_t 51 (by decide +kernel) rfl⟩
theorem nw_La_8 : xN R_La 8 7 [.int (iI 0), .null, .null, .null, .null, .null, .null, .null, .int (iI 0), .int (iI 0)] 10 := ⟨R_Ct, F_Ct, t_Ct, rfl, in_Ct, tk_Ct, xa_t 16 (by decide +kernel) rfl, xa_t 17 (by decide +kernel) rfl, xa_t 1 (by decide +kernel) rfl, by decide +kernel⟩
theorem nw_La_75 : xN R_La 75 8 [.int (iI 0), .int (iI 0), .int (iI 0), .null, .null, .null, .int (iI 0), .null, .null, .null, .null, .null, .null, .int (iI 0), .null, .null, .null, .null, .null, .null, .null, .null, .null, .null, .int (iI 0), .null, .null, .null, .null, .int (iI 0), .int (iI 0), .int (iI 0), .int (iI 0), .null, .null, .null, .null] 37 := ⟨R_Mo, F_Mo, t_Mo, rfl, in_Mo, tk_Mo, xa_t 664 (by decide +kernel) rfl, xa_t 665 (by decide +kernel) rfl, xa_t 6 (by decide +kernel) rfl, by decide +kernel⟩
theorem ini_IA : Cond.initialized "java/lang/IllegalArgumentException" ∈ xAll := xa_t 10 (by decide +kernel) rfl
theorem ini_IS : Cond.initialized "java/lang/IllegalStateException" ∈ xAll := xa_t 11 (by decide +kernel) rfl
theorem ac_int : Cond.arrayClass .int ∈ xAll := xa_t 74 (by decide +kernel) rfl
theorem ac_byte : Cond.arrayClass .byte ∈ xAll := xa_t 233 (by decide +kernel) rfl
theorem ac_long : Cond.arrayClass .long ∈ xAll := xa_t 895 (by decide +kernel) rfl
