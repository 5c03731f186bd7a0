/-! LONGS BY THEIR NUMBERS -/
def lI (z : Int) : Int64 := Int64.ofInt z
theorem lI_toInt {z : Int} (h : -9000000000000000000 ≤ z ∧ z ≤ 9000000000000000000) : (lI z).toInt = z := Int64.toInt_ofInt_of_le (by omega) (by omega)
theorem iI_lI {z : Int} (h : -2147483648 ≤ z ∧ z < 2147483648) : (iI z).toInt64 = lI z := by
  refine Int64.toInt.inj ?_
  rw [Int32.toInt_toInt64, iI_toInt h, lI_toInt (by omega)]
theorem lI_iI (z : Int) : (lI z).toInt32 = iI z := Int64.toInt32_ofInt
theorem lg_cmp_lI {a b : Int} (ha : -9000000000000000000 ≤ a ∧ a ≤ 9000000000000000000) (hb : -9000000000000000000 ≤ b ∧ b ≤ 9000000000000000000) : lg_cmp (lI a) (lI b) = iI (if b < a then 1 else if a = b then 0 else -1) := by
  unfold lg_cmp
  have h1 : (lI a > lI b) ↔ b < a := by rw [gt_iff_lt, Int64.lt_iff_toInt_lt, lI_toInt ha, lI_toInt hb]
  have h2 : (lI a = lI b) ↔ a = b := by rw [← Int64.toInt_inj, lI_toInt ha, lI_toInt hb]
  by_cases q : b < a
  · rw [if_pos (h1.mpr q), if_pos q]; rfl
  · rw [if_neg (fun z => q (h1.mp z)), if_neg q]
    by_cases q2 : a = b
    · rw [if_pos (h2.mpr q2), if_pos q2]; rfl
    · rw [if_neg (fun z => q2 (h2.mp z)), if_neg q2]; rfl
section XLg
variable {p : Program} {l : Launch} {e : Env} {R : Room} {s : State} {m : MethodId} {args : Array Value} {below : List Frame} {meth : Method} {c : Code} {cells slots : Nat} {Q : State → Prop} {P : Heap → List Loc → Prop}
variable {cc : ByteArray} {pc nL : Nat} {own : String} {D : va_G} {A : Nat → Prop} {tys : xK} {lv lv' : List (Nat × Value)} {st : List Value} {M : Wm}
theorem g_i2l (C : cX p m meth c cc nL s args own D tys A) {z : Int} (hz : -2147483648 ≤ z ∧ z < 2147483648) (hd : decode cc pc = .ok (.i2l, 1)) (k : gW p l e R s m args below meth c D A nL cells slots Q P (pc + 1) lv (.long (lI z) :: st) M) : gW p l e R s m args below meth c D A nL cells slots Q P pc lv (.int (iI z) :: st) M :=
  fun H locs ls hP hW hS hl => lv_i2l C.1.1 C.1.2.1 hd (iI_lI hz) (k H locs ls hP hW hS hl)
theorem g_l2i (C : cX p m meth c cc nL s args own D tys A) {z : Int} (hd : decode cc pc = .ok (.l2i, 1)) (k : gW p l e R s m args below meth c D A nL cells slots Q P (pc + 1) lv (.int (iI z) :: st) M) : gW p l e R s m args below meth c D A nL cells slots Q P pc lv (.long (lI z) :: st) M :=
  fun H locs ls hP hW hS hl => lv_l2i C.1.1 C.1.2.1 hd (lI_iI z) (k H locs ls hP hW hS hl)
theorem g_ladd (C : cX p m meth c cc nL s args own D tys A) {a b : Int} (hd : decode cc pc = .ok (.ladd, 1)) (k : gW p l e R s m args below meth c D A nL cells slots Q P (pc + 1) lv (.long (lI (a + b)) :: st) M) : gW p l e R s m args below meth c D A nL cells slots Q P pc lv (.long (lI b) :: .long (lI a) :: st) M := by
  intro H locs ls hP hW hS hl
  refine lv_ladd C.1.1 C.1.2.1 hd ?_
  have h := k H locs ls hP hW hS hl
  unfold lI at h ⊢
  rw [Int64.ofInt_add] at h
  exact h
theorem g_lmul (C : cX p m meth c cc nL s args own D tys A) {a b : Int} (hd : decode cc pc = .ok (.lmul, 1)) (k : gW p l e R s m args below meth c D A nL cells slots Q P (pc + 1) lv (.long (lI (a * b)) :: st) M) : gW p l e R s m args below meth c D A nL cells slots Q P pc lv (.long (lI b) :: .long (lI a) :: st) M := by
  intro H locs ls hP hW hS hl
  refine lv_lmul C.1.1 C.1.2.1 hd ?_
  have h := k H locs ls hP hW hS hl
  unfold lI at h ⊢
  rw [Int64.ofInt_mul] at h
  exact h
theorem g_lconst (C : cX p m meth c cc nL s args own D tys A) (hd : decode cc pc = .ok (.lconst 0, 1)) (k : gW p l e R s m args below meth c D A nL cells slots Q P (pc + 1) lv (.long (lI 0) :: st) M) : gW p l e R s m args below meth c D A nL cells slots Q P pc lv st M :=
  fun H locs ls hP hW hS hl => lv_lconst C.1.1 C.1.2.1 hd rfl (k H locs ls hP hW hS hl)
theorem g_ldc2 (C : cX p m meth c cc nL s args own D tys A) {index : Nat} (n : Int) (hc : Jvm.Cond.constantLong own index (lI n) ∈ xAll) (hd : decode cc pc = .ok (.ldc2_w index, 3)) (k : gW p l e R s m args below meth c D A nL cells slots Q P (pc + 3) lv (.long (lI n) :: st) M) : gW p l e R s m args below meth c D A nL cells slots Q P pc lv st M :=
  fun H locs ls hP hW hS hl => lv_ldc2 C.1.1 C.1.2.1 C.1.2.2.2.1 (C.1.2.2.2.2 _ hc) hd (k H locs ls hP hW hS hl)
theorem g_lload (C : cX p m meth c cc nL s args own D tys A) {k0 : Nat} (hd : decode cc pc = .ok (.lload k0, 2)) (i : Nat) {x : Int64} (hi : lv[i]? = some (k0, .long x)) (k : gW p l e R s m args below meth c D A nL cells slots Q P (pc + 2) lv (.long x :: st) M) : gW p l e R s m args below meth c D A nL cells slots Q P pc lv st M :=
  fun H locs ls hP hW hS hl => lv_lload C.1.1 C.1.2.1 hd (lv_at hl i hi) (k H locs ls hP hW hS hl)
theorem g_lstore (C : cX p m meth c cc nL s args own D tys A) {k0 : Nat} {x : Int64} (hd : decode cc pc = .ok (.lstore k0, 2)) (hn : k0 + 1 < nL) (hv : (k0, Value.long x) :: lv.filter (fun q => !(q.1 == k0) && (!(q.1 == k0 + 1) && !(q.1 + 1 == k0 && q.2.category == 2))) = lv') (k : gW p l e R s m args below meth c D A nL cells slots Q P (pc + 2) lv' st M) : gW p l e R s m args below meth c D A nL cells slots Q P pc lv (.long x :: st) M :=
  fun H locs _ hP hW hS hl => lv_lstore C.1.1 C.1.2.1 hd hl hn hv (fun ls' hl' => k H locs ls' hP hW hS hl')
theorem g_lcmp (C : cX p m meth c cc nL s args own D tys A) {a b : Int} (ha : (-9000000000000000000 ≤ a ∧ a ≤ 9000000000000000000) ∧ (-9000000000000000000 ≤ b ∧ b ≤ 9000000000000000000)) (hd : decode cc pc = .ok (.lcmp, 1)) (k : gW p l e R s m args below meth c D A nL cells slots Q P (pc + 1) lv (.int (iI (if b < a then 1 else if a = b then 0 else -1)) :: st) M) : gW p l e R s m args below meth c D A nL cells slots Q P pc lv (.long (lI b) :: .long (lI a) :: st) M := by
  intro H locs ls hP hW hS hl
  refine W.lcmp C.1.1 C.1.2.1 hd ?_
  rw [lg_cmp_lI ha.1 ha.2]
  exact k H locs ls hP hW hS hl
end XLg
theorem q2_Mo_160 : Cond.constantLong R_Mo 160 (lI 10) ∈ xAll := xa_t 885 (by decide +kernel) rfl
theorem q2_Mo_162 : Cond.constantLong R_Mo 162 (lI 20) ∈ xAll := xa_t 886 (by decide +kernel) rfl
theorem q2_Mo_164 : Cond.constantLong R_Mo 164 (lI 2) ∈ xAll := xa_t 887 (by decide +kernel) rfl
theorem q2_Mo_166 : Cond.constantLong R_Mo 166 (lI 4) ∈ xAll := xa_t 888 (by decide +kernel) rfl
theorem q2_Mo_168 : Cond.constantLong R_Mo 168 (lI 1000000) ∈ xAll := xa_t 889 (by decide +kernel) rfl
