/-! THE MODEL'S ARRAYS after a call -/
theorem mR_place {s : AS} {f : Nat → Nat → Int} {np nl nt ns : Nat} {x y z : Int} (h : mR s f np nl nt ns) (e : s 0 0 1 = (np : Int)) : mR (sPlace s x y z) (va_up (va_up (va_up f 0 (va_up (f 0) np x)) 1 (va_up (f 1) np y)) 2 (va_up (f 2) np z)) (np + 1) nl nt ns := by
  obtain ⟨h1, h2⟩ := h
  refine ⟨fun k hk => ?_, h2⟩
  have en : (s 0 0 1).toNat = np := by omega
  show va_up (f 0) np x k = sPlace s x y z 1 k 0 ∧ va_up (f 1) np y k = sPlace s x y z 1 k 1 ∧ va_up (f 2) np z k = sPlace s x y z 1 k 2
  unfold sPlace
  rw [en]
  by_cases q : k = np
  · subst q
    rw [sR_s, iu_s, iu_s, iu_s]
    exact ⟨rfl, rfl, rfl⟩
  · rw [sR_n q, iu_n q, iu_n q, iu_n q]
    exact h1 k (by omega)
theorem mR_lift {s : AS} {f : Nat → Nat → Int} {np nl nt ns : Nat} {x1 x2 x3 x4 x5 x6 : Int} (h : mR s f np nl nt ns) (e : s 0 0 2 = (nl : Int)) : mR (sLiftN s x1 x2 x3 x4 x5 x6) (va_up (va_up (va_up (va_up (va_up (va_up f 3 (va_up (f 3) nl x1)) 4 (va_up (f 4) nl x2)) 5 (va_up (f 5) nl x3)) 6 (va_up (f 6) nl x4)) 7 (va_up (f 7) nl x5)) 8 (va_up (f 8) nl x6)) np (nl + 1) nt ns := by
  obtain ⟨h1, h2, h3⟩ := h
  refine ⟨h1, fun k hk => ?_, h3⟩
  have en : (s 0 0 2).toNat = nl := by omega
  show va_up (f 3) nl x1 k = sLiftN s x1 x2 x3 x4 x5 x6 2 k 0 ∧ va_up (f 4) nl x2 k = sLiftN s x1 x2 x3 x4 x5 x6 2 k 1 ∧ va_up (f 5) nl x3 k = sLiftN s x1 x2 x3 x4 x5 x6 2 k 2 ∧ va_up (f 6) nl x4 k = sLiftN s x1 x2 x3 x4 x5 x6 2 k 3 ∧ va_up (f 7) nl x5 k = sLiftN s x1 x2 x3 x4 x5 x6 2 k 4 ∧ va_up (f 8) nl x6 k = sLiftN s x1 x2 x3 x4 x5 x6 2 k 5
  unfold sLiftN
  rw [en]
  by_cases q : k = nl
  · subst q
    rw [sR_s, iu_s, iu_s, iu_s, iu_s, iu_s, iu_s]
    exact ⟨rfl, rfl, rfl, rfl, rfl, rfl⟩
  · rw [sR_n q, iu_n q, iu_n q, iu_n q, iu_n q, iu_n q, iu_n q]
    exact h2 k (by omega)
theorem mR_part {s : AS} {f : Nat → Nat → Int} {np nl nt ns : Nat} {x1 x2 x3 x4 x5 x6 : Int} (h : mR s f np nl nt ns) (e : s 0 0 3 = (nt : Int)) : mR (sPart s x1 x2 x3 x4 x5 x6) (va_up (va_up (va_up (va_up (va_up (va_up (va_up f 9 (va_up (f 9) nt x1)) 10 (va_up (f 10) nt x2)) 11 (va_up (f 11) nt x3)) 12 (va_up (f 12) nt x4)) 13 (va_up (f 13) nt x5)) 14 (va_up (f 14) nt x6)) 18 (va_up (f 18) nt (-1))) np nl (nt + 1) ns := by
  obtain ⟨h1, h2, h3, h4, h5⟩ := h
  refine ⟨h1, h2, fun k hk => ?_, fun k hk => h4 k (by omega), h5⟩
  have en : (s 0 0 3).toNat = nt := by omega
  show va_up (f 9) nt x1 k = sPart s x1 x2 x3 x4 x5 x6 3 k 9 ∧ va_up (f 10) nt x2 k = sPart s x1 x2 x3 x4 x5 x6 3 k 0 ∧ va_up (f 11) nt x3 k = sPart s x1 x2 x3 x4 x5 x6 3 k 1 ∧ va_up (f 12) nt x4 k = sPart s x1 x2 x3 x4 x5 x6 3 k 2 ∧ va_up (f 13) nt x5 k = sPart s x1 x2 x3 x4 x5 x6 3 k 3 ∧ va_up (f 14) nt x6 k = sPart s x1 x2 x3 x4 x5 x6 3 k 4 ∧ f 15 k = sPart s x1 x2 x3 x4 x5 x6 3 k 5 ∧ f 16 k = sPart s x1 x2 x3 x4 x5 x6 3 k 6 ∧ f 17 k = sPart s x1 x2 x3 x4 x5 x6 3 k 7 ∧ va_up (f 18) nt (-1) k = sPart s x1 x2 x3 x4 x5 x6 3 k 8 ∧ sPart s x1 x2 x3 x4 x5 x6 3 k 5 ≤ sPart s x1 x2 x3 x4 x5 x6 3 k 7
  unfold sPart
  rw [en]
  by_cases q : k = nt
  · subst q
    obtain ⟨z1, z2, z3⟩ := h4 k (Nat.le_refl k)
    rw [sR_s, iu_s, iu_s, iu_s, iu_s, iu_s, iu_s, iu_s]
    exact ⟨rfl, rfl, rfl, rfl, rfl, rfl, z1, z2, z3, rfl, by show (0 : Int) ≤ 0; decide⟩
  · rw [sR_n q, iu_n q, iu_n q, iu_n q, iu_n q, iu_n q, iu_n q, iu_n q]
    exact h3 k (by omega)
theorem mR_person {s : AS} {f : Nat → Nat → Int} {np nl nt ns : Nat} {x1 x2 x3 : Int} (h : mR s f np nl nt ns) (e : s 0 0 4 = (ns : Int)) : mR (sPerson s x1 x2 x3) (va_up (va_up (va_up f 19 (va_up (f 19) ns x1)) 20 (va_up (f 20) ns x2)) 21 (va_up (f 21) ns x3)) np nl nt (ns + 1) := by
  obtain ⟨h1, h2, h3, h4, h5, h6⟩ := h
  refine ⟨h1, h2, h3, h4, fun k hk => ?_, h6⟩
  have en : (s 0 0 4).toNat = ns := by omega
  show va_up (f 19) ns x1 k = sPerson s x1 x2 x3 4 k 0 ∧ va_up (f 20) ns x2 k = sPerson s x1 x2 x3 4 k 2 ∧ va_up (f 21) ns x3 k = sPerson s x1 x2 x3 4 k 1
  unfold sPerson
  rw [en]
  by_cases q : k = ns
  · subst q
    rw [sR_s, iu_s, iu_s, iu_s]
    exact ⟨rfl, rfl, rfl⟩
  · rw [sR_n q, iu_n q, iu_n q, iu_n q]
    exact h5 k (by omega)
theorem mR_stk {s : AS} {f : Nat → Nat → Int} {np nl nt ns k : Nat} {n : Int} (h : mR s f np nl nt ns) : mR (sStk s k n) (va_up f 22 (va_up (f 22) k (s 5 0 k + n))) np nl nt ns := by
  obtain ⟨h1, h2, h3, h4, h5, h6⟩ := h
  refine ⟨h1, h2, h3, h4, h5, fun j => ?_⟩
  show va_up (f 22) k (s 5 0 k + n) j = va_up (s 5 0) k (s 5 0 k + n) j
  by_cases q : j = k
  · subst q; rw [iu_s, iu_s]
  · rw [iu_n q, iu_n q]; exact h6 j
theorem mR_pt {s s' : AS} {f f' : Nat → Nat → Int} {np nl nt ns p : Nat} {t : Nat → Int} (h : mR s f np nl nt ns) (hp : p < nt) (e1 : s' 1 = s 1) (e2 : s' 2 = s 2) (e4 : s' 4 = s 4) (e3 : s' 3 = va_up (s 3) p t) (et : t 9 = s 3 p 9 ∧ t 0 = s 3 p 0 ∧ t 1 = s 3 p 1 ∧ t 2 = s 3 p 2 ∧ t 3 = s 3 p 3 ∧ t 4 = s 3 p 4 ∧ t 5 ≤ t 7) (ef : ∀ j, j < 15 ∨ (18 < j ∧ j < 22) → f' j = f j) (e15 : f' 15 = va_up (f 15) p (t 5)) (e16 : f' 16 = va_up (f 16) p (t 6)) (e17 : f' 17 = va_up (f 17) p (t 7)) (e18 : f' 18 = va_up (f 18) p (t 8)) (e22 : ∀ k, f' 22 k = s' 5 0 k) : mR s' f' np nl nt ns := by
  obtain ⟨h1, h2, h3, h4, h5, h6⟩ := h
  unfold mR
  rw [e1, e2, e4, e3, ef 0 (by omega), ef 1 (by omega), ef 2 (by omega), ef 3 (by omega), ef 4 (by omega), ef 5 (by omega), ef 6 (by omega), ef 7 (by omega), ef 8 (by omega), ef 9 (by omega), ef 10 (by omega), ef 11 (by omega), ef 12 (by omega), ef 13 (by omega), ef 14 (by omega), ef 19 (by omega), ef 20 (by omega), ef 21 (by omega), e15, e16, e17, e18]
  refine ⟨h1, h2, fun k hk => ?_, fun k hk => ?_, h5, e22⟩
  · by_cases q : k = p
    · subst q
      obtain ⟨a1, a2, a3, a4, a5, a6, -⟩ := h3 k hk
      obtain ⟨t9, t0, t1, t2, t3, t4, t57⟩ := et
      rw [wU_s, wU_s, wU_s, wU_s, wU_s]
      refine ⟨by rw [t9]; exact a1, by rw [t0]; exact a2, by rw [t1]; exact a3, by rw [t2]; exact a4, by rw [t3]; exact a5, by rw [t4]; exact a6, rfl, rfl, rfl, rfl, t57⟩
    · rw [wU_n q, wU_n q, wU_n q, wU_n q, wU_n q]
      exact h3 k hk
  · rw [wU_n (show k ≠ p by omega), wU_n (show k ≠ p by omega), wU_n (show k ≠ p by omega)]
    exact h4 k hk
