/-! WHAT HOLDS AT THE START -/
theorem st_Nw {b : Nat} {s : State} (hts : ∀ w ∈ lw_tbl, w.before #[Value.ref b] s = true) : ∀ w ∈ xNw, va_Nw w s := by
  intro w hw
  have h2 := (List.mem_filter.mp hw).2
  have h1 := hts w (xNw_tbl w hw)
  cases w with
  | fieldLinkNest => exact va_Nw.of rfl h1
  | methodLinkNest => exact va_Nw.of rfl h1
  | castable => exact va_Nw.of rfl h1
  | declares => exact va_Nw.of rfl h1
  | arrayOver ty => cases ty with
    | object C => exact va_AO.of h1
    | _ => cases h2
  | _ => cases h2
theorem st_D {b : Nat} {s : State} (hts : ∀ w ∈ lw_tbl, w.before #[Value.ref b] s = true) : ∃ D : va_G, ∀ (k : Nat) (q : vw_C), xCl[k]? = some q → u_Kn s q.1 q.2.1 q.2.2 (D.1 k) (D.2 k) := by
  have hall : ∀ w ∈ xAll, w.before #[Value.ref b] s = true := fun w h => hts w (xAll_tbl w h)
  obtain ⟨c0, i0, h0⟩ := u_known (C := R_Ho) (T := F_Ho) (N := 4) (n := 4) hall in_Ho (hts (.instantiable R_Ho 4) (xAll_tbl _ (xa_t 25 (by decide +kernel) rfl)))
  obtain ⟨c1, i1, h1⟩ := u_known (C := R_Li) (T := F_Li) (N := 6) (n := 6) hall in_Li (hts (.instantiable R_Li 6) (xAll_tbl _ (xa_t 289 (by decide +kernel) rfl)))
  obtain ⟨c2, i2, h2⟩ := u_known (C := R_Pt) (T := F_Pt) (N := 11) (n := 11) hall in_Pt (hts (.instantiable R_Pt 11) (xAll_tbl _ (xa_t 335 (by decide +kernel) rfl)))
  obtain ⟨c3, i3, h3⟩ := u_known (C := R_Pe) (T := F_Pe) (N := 4) (n := 4) hall in_Pe (hts (.instantiable R_Pe 4) (xAll_tbl _ (xa_t 396 (by decide +kernel) rfl)))
  obtain ⟨c4, i4, h4⟩ := u_known (C := R_Pl) (T := F_Pl) (N := 3) (n := 3) hall in_Pl (hts (.instantiable R_Pl 3) (xAll_tbl _ (xa_t 255 (by decide +kernel) rfl)))
  obtain ⟨c5, i5, h5⟩ := u_known (C := R_Pn) (T := F_Pn) (N := 4) (n := 4) hall in_Pn (hts (.instantiable R_Pn 4) (xAll_tbl _ (xa_t 55 (by decide +kernel) rfl)))
  obtain ⟨c6, i6, h6⟩ := u_known (C := R_To) (T := F_To) (N := 7) (n := 7) hall in_To (hts (.instantiable R_To 7) (xAll_tbl _ (xa_t 76 (by decide +kernel) rfl)))
  obtain ⟨c7, i7, h7⟩ := u_known (C := R_Ct) (T := F_Ct) (N := 10) (n := 10) hall in_Ct (hts (.instantiable R_Ct 10) (xAll_tbl _ (xa_t 17 (by decide +kernel) rfl)))
  obtain ⟨c8, i8, h8⟩ := u_known (C := R_Mo) (T := F_Mo) (N := 37) (n := 37) hall in_Mo (hts (.instantiable R_Mo 37) (xAll_tbl _ (xa_t 665 (by decide +kernel) rfl)))
  refine ⟨(fun k => if k = 0 then c0 else if k = 1 then c1 else if k = 2 then c2 else if k = 3 then c3 else if k = 4 then c4 else if k = 5 then c5 else if k = 6 then c6 else if k = 7 then c7 else c8, fun k => if k = 0 then i0 else if k = 1 then i1 else if k = 2 then i2 else if k = 3 then i3 else if k = 4 then i4 else if k = 5 then i5 else if k = 6 then i6 else if k = 7 then i7 else i8), ?_⟩
  intro k q hq
  match k, hq with
  | 0, hq => cases hq; exact h0
  | 1, hq => cases hq; exact h1
  | 2, hq => cases hq; exact h2
  | 3, hq => cases hq; exact h3
  | 4, hq => cases hq; exact h4
  | 5, hq => cases hq; exact h5
  | 6, hq => cases hq; exact h6
  | 7, hq => cases hq; exact h7
  | 8, hq => cases hq; exact h8
  | k + 9, hq => simp at hq
theorem st_A {b : Nat} {s : State} {C : String} (h : (Cond.arrayOver (.object C)).before #[Value.ref b] s = true) : ∃ (cA : ClassId) (kA : Class) (comp : ClassId), s.vm.classes[cA]? = some kA ∧ kA.kind = .array comp (.object C) ∧ ArrOfT s cA (.object C) ∧ va_RA s cA (.object C) := by
  obtain ⟨comp, cA, kA, f4, -, f2, f3, f1⟩ := Cond.arrayOver_spec h
  exact ⟨cA, kA, comp, f2, f3, fun N z => ⟨(fun k h => by cases h), kA, f2, comp, f3⟩, kA, comp, f2, f3, f4, f1⟩
theorem st_ne {s : State} {c1 c2 p1 p2 : ClassId} {k1 k2 : Class} {C1 C2 : String} (h1 : s.vm.classes[c1]? = some k1) (h2 : s.vm.classes[c2]? = some k2) (e1 : k1.kind = .array p1 (.object C1)) (e2 : k2.kind = .array p2 (.object C2)) (hC : C1 ≠ C2) : c1 ≠ c2 := by
  intro e
  subst e
  rw [h1] at h2
  cases h2
  rw [e1] at e2
  cases e2
  exact hC rfl
theorem st_I {b : Nat} {s : State} (h : (Cond.arrayClass .int).before #[Value.ref b] s = true) : ∃ cA : ClassId, ArrOfT s cA .int ∧ va_RA s cA .int := by
  obtain ⟨cA, kA, comp, h1, h2, h3⟩ := Cond.arrayClass_spec h
  exact ⟨cA, fun n z => ⟨fun k h => (by cases h), kA, h2, comp, h3⟩, h1⟩
theorem st_J {b : Nat} {s : State} (h : (Cond.arrayClass .long).before #[Value.ref b] s = true) : ∃ cA : ClassId, ArrOfT s cA .long ∧ va_RA s cA .long := by
  obtain ⟨cA, kA, comp, h1, h2, h3⟩ := Cond.arrayClass_spec h
  exact ⟨cA, fun n z => ⟨fun k h => (by cases h), kA, h2, comp, h3⟩, h1⟩
theorem st_T {b : Nat} {s : State} (hts : ∀ w ∈ lw_tbl, w.before #[Value.ref b] s = true) : ∃ tys : xK, tyOK tys ∧ ∀ (k : Nat) (q : ClassId × FieldType), tys[k]? = some q → ArrOfT s q.1 q.2 ∧ va_RA s q.1 q.2 := by
  obtain ⟨c0, a0, b0⟩ := st_I (hts _ (xAll_tbl _ ac_int))
  obtain ⟨c1, a1, b1⟩ := st_J (hts _ (xAll_tbl _ ac_long))
  obtain ⟨c2, k2, p2, f2, g2, a2, b2⟩ := st_A (C := "CareTours$Place") (hts _ (xNw_tbl _ (xn_t 31 (by decide +kernel) rfl)))
  obtain ⟨c3, k3, p3, f3, g3, a3, b3⟩ := st_A (C := "CareTours$Lift") (hts _ (xNw_tbl _ (xn_t 33 (by decide +kernel) rfl)))
  obtain ⟨c4, k4, p4, f4, g4, a4, b4⟩ := st_A (C := "CareTours$Part") (hts _ (xNw_tbl _ (xn_t 51 (by decide +kernel) rfl)))
  obtain ⟨c5, k5, p5, f5, g5, a5, b5⟩ := st_A (C := "CareTours$Person") (hts _ (xNw_tbl _ (xn_t 53 (by decide +kernel) rfl)))
  refine ⟨[(c0, .int), (c1, .long), (c2, .object "CareTours$Place"), (c3, .object "CareTours$Lift"), (c4, .object "CareTours$Part"), (c5, .object "CareTours$Person")], ⟨rfl, rfl, rfl, rfl, rfl, rfl, st_ne f3 f2 g3 g2 (by decide), st_ne f4 f2 g4 g2 (by decide), st_ne f5 f2 g5 g2 (by decide), st_ne f4 f3 g4 g3 (by decide), st_ne f5 f3 g5 g3 (by decide), st_ne f5 f4 g5 g4 (by decide)⟩, ?_⟩
  intro k q hq
  match k, hq with
  | 0, hq => cases hq; exact ⟨a0, b0⟩
  | 1, hq => cases hq; exact ⟨a1, b1⟩
  | 2, hq => cases hq; exact ⟨a2, b2⟩
  | 3, hq => cases hq; exact ⟨a3, b3⟩
  | 4, hq => cases hq; exact ⟨a4, b4⟩
  | 5, hq => cases hq; exact ⟨a5, b5⟩
  | k + 6, hq => simp at hq
theorem st_q1 : ∀ q ∈ xStr, Cond.stringRef q.1 q.2.1 q.2.2 ∈ tables_1 := by decide +kernel
theorem st_q2 : ∀ q ∈ xStr, Cond.exactly (.string q.1 q.2.1) "java/lang/String" ∈ flatC (Jvm.Cond.and given_1 narrow_1) := by decide +kernel
theorem st_L {b : Nat} {s : State} (hts : ∀ w ∈ lw_tbl, w.before #[Value.ref b] s = true) (hfl : ∀ w ∈ flatC (Jvm.Cond.and given_1 narrow_1), w.before #[Value.ref b] s = true) : cL s :=
  ⟨st_Nw hts _ (xn_t 169 (by decide +kernel) rfl), st_Nw hts _ (xn_t 236 (by decide +kernel) rfl), va_Nc.of (hfl (Cond.not (.castable xIS xIA)) (by decide +kernel))⟩
theorem st_S {b : Nat} {s : State} (hts : ∀ w ∈ lw_tbl, w.before #[Value.ref b] s = true) (hfl : ∀ w ∈ flatC (Jvm.Cond.and given_1 narrow_1), w.before #[Value.ref b] s = true) : sT (fun q : Nat => s.heap.size ≤ q) s := by
  have hA0 : ∀ a : Nat, a < s.heap.size → ¬ (fun q : Nat => s.heap.size ≤ q) a := fun a h => Nat.not_le.mpr h
  have hin := hts (Cond.initialized Bundle.tN) (List.mem_append_right _ (List.mem_of_getElem? (i := 7) (by decide +kernel)))
  refine ⟨fun q hq => ?_, vx_Zqof (hts _ (List.mem_append_right _ (List.mem_of_getElem? (i := 194) (by decide +kernel)))) hin (hfl _ (by decide +kernel)) hA0, vx_Zqof (hts _ (List.mem_append_right _ (List.mem_of_getElem? (i := 196) (by decide +kernel)))) hin (hfl _ (by decide +kernel)) hA0⟩
  obtain ⟨a, c, cell, k, e1, -⟩ := Cond.exactly_spec (hfl _ (st_q2 q hq))
  exact ⟨a, vk_R.of (hts _ (List.mem_append_right _ (st_q1 q hq))) e1⟩
