/-! ROWS OF THE WALK, over worlds by address. A goal 'gW .. pc lv st M': from pc, with the locals lv, the stack st and the world M, the machine comes to Q. -/
abbrev xK : Type := List (ClassId × FieldType)
def cX (p : Program) (m : MethodId) (meth : Method) (c : Code) (cc : ByteArray) (nL : Nat) (s : State) (args : Array Value) (own : String) (D : va_G) (tys : xK) (A : Nat → Prop) : Prop :=
  CallFix p m c cc nL s args xAll own ∧ va_K D xCl tys s ∧ (∀ w ∈ xNw, va_Nw w s) ∧ (∀ q : Nat, s.heap.size ≤ q → A q) ∧ meth.locks = false ∧ sT A s
def gW (p : Program) (l : Launch) (e : Env) (R : Room) (s : State) (m : MethodId) (args : Array Value) (below : List Frame) (meth : Method) (c : Code) (D : va_G) (A : Nat → Prop) (nL cells slots : Nat) (Q : State → Prop) (P : Heap → List Loc → Prop) (pc : Nat) (lv : List (Nat × Value)) (st : List Value) (M : Wm) : Prop :=
  ∀ (H : Heap) (locs : List Loc) (ls : Array Slot), P H locs → wd_ok D xCl A M H → va_S A s.heap H locs → lv_has ls nL lv → W p l e R s m args below meth c H locs cells slots Q (F0 m pc ls st)
/-- heap and places written: whatever they are -/
def wX : Heap → List Loc → Prop := fun _ _ => True
/-- nothing written yet -/
def wN (s : State) : Heap → List Loc → Prop := fun H locs => H = s.heap ∧ locs = []
section XR
variable {p : Program} {l : Launch} {e : Env} {R : Room} {s : State} {m : MethodId} {args : Array Value} {below : List Frame} {meth : Method} {c : Code} {cells slots : Nat} {Q : State → Prop} {P : Heap → List Loc → Prop}
variable {cc : ByteArray} {pc nL : Nat} {own : String} {D : va_G} {A : Nat → Prop} {tys : xK} {lv lv' : List (Nat × Value)} {st : List Value} {M : Wm}
theorem g_iconst (C : cX p m meth c cc nL s args own D tys A) {n : Int} (hd : decode cc pc = .ok (.iconst n, 1)) (k : gW p l e R s m args below meth c D A nL cells slots Q P (pc + 1) lv (.int (iI n) :: st) M) : gW p l e R s m args below meth c D A nL cells slots Q P pc lv st M :=
  fun H locs ls hP hW hS hl => lv_iconst C.1.1 C.1.2.1 hd rfl (k H locs ls hP hW hS hl)
theorem g_bipush (C : cX p m meth c cc nL s args own D tys A) {n : Int} (hd : decode cc pc = .ok (.bipush n, 2)) (hn : (Int8.ofInt n).toInt32 = iI n) (k : gW p l e R s m args below meth c D A nL cells slots Q P (pc + 2) lv (.int (iI n) :: st) M) : gW p l e R s m args below meth c D A nL cells slots Q P pc lv st M :=
  fun H locs ls hP hW hS hl => lv_bipush C.1.1 C.1.2.1 hd hn (k H locs ls hP hW hS hl)
theorem g_sipush (C : cX p m meth c cc nL s args own D tys A) {n : Int} (hd : decode cc pc = .ok (.sipush n, 3)) (hn : (Int16.ofInt n).toInt32 = iI n) (k : gW p l e R s m args below meth c D A nL cells slots Q P (pc + 3) lv (.int (iI n) :: st) M) : gW p l e R s m args below meth c D A nL cells slots Q P pc lv st M :=
  fun H locs ls hP hW hS hl => lv_sipush C.1.1 C.1.2.1 hd hn (k H locs ls hP hW hS hl)
theorem g_ldc (C : cX p m meth c cc nL s args own D tys A) {index : Nat} (n : Int) (hc : Jvm.Cond.constant own index (iI n) ∈ xAll) (hd : decode cc pc = .ok (.ldc index, 2)) (k : gW p l e R s m args below meth c D A nL cells slots Q P (pc + 2) lv (.int (iI n) :: st) M) : gW p l e R s m args below meth c D A nL cells slots Q P pc lv st M :=
  fun H locs ls hP hW hS hl => lv_ldc C.1.1 C.1.2.1 C.1.2.2.2.1 (C.1.2.2.2.2 _ hc) hd (k H locs ls hP hW hS hl)
theorem g_null (C : cX p m meth c cc nL s args own D tys A) (hd : decode cc pc = .ok (.aconst_null, 1)) (k : gW p l e R s m args below meth c D A nL cells slots Q P (pc + 1) lv (.null :: st) M) : gW p l e R s m args below meth c D A nL cells slots Q P pc lv st M :=
  fun H locs ls hP hW hS hl => lv_null C.1.1 C.1.2.1 hd (k H locs ls hP hW hS hl)
theorem g_iload_n (C : cX p m meth c cc nL s args own D tys A) {k0 : Fin 4} (hd : decode cc pc = .ok (.iload_n k0, 1)) (i : Nat) {x : Int32} (hi : lv[i]? = some ((k0 : Nat), .int x)) (k : gW p l e R s m args below meth c D A nL cells slots Q P (pc + 1) lv (.int x :: st) M) : gW p l e R s m args below meth c D A nL cells slots Q P pc lv st M :=
  fun H locs ls hP hW hS hl => lv_iload_n C.1.1 C.1.2.1 hd rfl (lv_at hl i hi) (k H locs ls hP hW hS hl)
theorem g_iload (C : cX p m meth c cc nL s args own D tys A) {k0 : Nat} (hd : decode cc pc = .ok (.iload k0, 2)) (i : Nat) {x : Int32} (hi : lv[i]? = some (k0, .int x)) (k : gW p l e R s m args below meth c D A nL cells slots Q P (pc + 2) lv (.int x :: st) M) : gW p l e R s m args below meth c D A nL cells slots Q P pc lv st M :=
  fun H locs ls hP hW hS hl => lv_iload C.1.1 C.1.2.1 hd (lv_at hl i hi) (k H locs ls hP hW hS hl)
theorem g_aload_n (C : cX p m meth c cc nL s args own D tys A) {k0 : Fin 4} (hd : decode cc pc = .ok (.aload_n k0, 1)) (i : Nat) {x : Nat} (hi : lv[i]? = some ((k0 : Nat), .ref x)) (k : gW p l e R s m args below meth c D A nL cells slots Q P (pc + 1) lv (.ref x :: st) M) : gW p l e R s m args below meth c D A nL cells slots Q P pc lv st M :=
  fun H locs ls hP hW hS hl => lv_aload_n C.1.1 C.1.2.1 hd rfl (lv_at hl i hi) (k H locs ls hP hW hS hl)
theorem g_aload (C : cX p m meth c cc nL s args own D tys A) {k0 : Nat} (hd : decode cc pc = .ok (.aload k0, 2)) (i : Nat) {x : Nat} (hi : lv[i]? = some (k0, .ref x)) (k : gW p l e R s m args below meth c D A nL cells slots Q P (pc + 2) lv (.ref x :: st) M) : gW p l e R s m args below meth c D A nL cells slots Q P pc lv st M :=
  fun H locs ls hP hW hS hl => lv_aload C.1.1 C.1.2.1 hd (lv_at hl i hi) (k H locs ls hP hW hS hl)
theorem g_istore_n (C : cX p m meth c cc nL s args own D tys A) {k0 : Fin 4} {x : Int32} (hd : decode cc pc = .ok (.istore_n k0, 1)) (hn : (k0 : Nat) < nL) (hv : ((k0 : Nat), Value.int x) :: lv.filter (fun q => !(q.1 == (k0 : Nat)) && !(q.1 + 1 == (k0 : Nat) && q.2.category == 2)) = lv') (k : gW p l e R s m args below meth c D A nL cells slots Q P (pc + 1) lv' st M) : gW p l e R s m args below meth c D A nL cells slots Q P pc lv (.int x :: st) M :=
  fun H locs _ hP hW hS hl => lv_istore_n C.1.1 C.1.2.1 hd rfl hl hn hv (fun ls' hl' => k H locs ls' hP hW hS hl')
theorem g_istore (C : cX p m meth c cc nL s args own D tys A) {k0 : Nat} {x : Int32} (hd : decode cc pc = .ok (.istore k0, 2)) (hn : k0 < nL) (hv : (k0, Value.int x) :: lv.filter (fun q => !(q.1 == k0) && !(q.1 + 1 == k0 && q.2.category == 2)) = lv') (k : gW p l e R s m args below meth c D A nL cells slots Q P (pc + 2) lv' st M) : gW p l e R s m args below meth c D A nL cells slots Q P pc lv (.int x :: st) M :=
  fun H locs _ hP hW hS hl => lv_istore C.1.1 C.1.2.1 hd hl hn hv (fun ls' hl' => k H locs ls' hP hW hS hl')
theorem g_astore_n (C : cX p m meth c cc nL s args own D tys A) {k0 : Fin 4} {x : Nat} (hd : decode cc pc = .ok (.astore_n k0, 1)) (hn : (k0 : Nat) < nL) (hv : ((k0 : Nat), Value.ref x) :: lv.filter (fun q => !(q.1 == (k0 : Nat)) && !(q.1 + 1 == (k0 : Nat) && q.2.category == 2)) = lv') (k : gW p l e R s m args below meth c D A nL cells slots Q P (pc + 1) lv' st M) : gW p l e R s m args below meth c D A nL cells slots Q P pc lv (.ref x :: st) M :=
  fun H locs _ hP hW hS hl => lv_astore_n C.1.1 C.1.2.1 hd rfl hl hn hv (fun ls' hl' => k H locs ls' hP hW hS hl')
theorem g_astore (C : cX p m meth c cc nL s args own D tys A) {k0 : Nat} {x : Nat} (hd : decode cc pc = .ok (.astore k0, 2)) (hn : k0 < nL) (hv : (k0, Value.ref x) :: lv.filter (fun q => !(q.1 == k0) && !(q.1 + 1 == k0 && q.2.category == 2)) = lv') (k : gW p l e R s m args below meth c D A nL cells slots Q P (pc + 2) lv' st M) : gW p l e R s m args below meth c D A nL cells slots Q P pc lv (.ref x :: st) M :=
  fun H locs _ hP hW hS hl => lv_astore C.1.1 C.1.2.1 hd hl hn hv (fun ls' hl' => k H locs ls' hP hW hS hl')
theorem g_iinc (C : cX p m meth c cc nL s args own D tys A) {k0 : Nat} {n x : Int} (hd : decode cc pc = .ok (.iinc k0 n, 3)) (i : Nat) (hi : lv[i]? = some (k0, .int (iI x))) (hn : k0 < nL) (hv : (k0, Value.int (iI (x + n))) :: lv.filter (fun q => !(q.1 == k0) && !(q.1 + 1 == k0 && q.2.category == 2)) = lv') (k : gW p l e R s m args below meth c D A nL cells slots Q P (pc + 3) lv' st M) : gW p l e R s m args below meth c D A nL cells slots Q P pc lv st M :=
  fun H locs _ hP hW hS hl => lv_iinc (k := i) C.1.1 C.1.2.1 hd hl hi (iI_add x n) hn hv (fun ls' hl' => k H locs ls' hP hW hS hl')
theorem g_iadd (C : cX p m meth c cc nL s args own D tys A) {a b : Int} (hd : decode cc pc = .ok (.iadd, 1)) (k : gW p l e R s m args below meth c D A nL cells slots Q P (pc + 1) lv (.int (iI (a + b)) :: st) M) : gW p l e R s m args below meth c D A nL cells slots Q P pc lv (.int (iI b) :: .int (iI a) :: st) M :=
  fun H locs ls hP hW hS hl => lv_iadd C.1.1 C.1.2.1 hd (by rw [iI_add]; exact k H locs ls hP hW hS hl)
theorem g_isub (C : cX p m meth c cc nL s args own D tys A) {a b : Int} (hd : decode cc pc = .ok (.isub, 1)) (k : gW p l e R s m args below meth c D A nL cells slots Q P (pc + 1) lv (.int (iI (a - b)) :: st) M) : gW p l e R s m args below meth c D A nL cells slots Q P pc lv (.int (iI b) :: .int (iI a) :: st) M :=
  fun H locs ls hP hW hS hl => lv_isub C.1.1 C.1.2.1 hd (by rw [iI_sub]; exact k H locs ls hP hW hS hl)
theorem g_imul (C : cX p m meth c cc nL s args own D tys A) {a b : Int} (hd : decode cc pc = .ok (.imul, 1)) (k : gW p l e R s m args below meth c D A nL cells slots Q P (pc + 1) lv (.int (iI (a * b)) :: st) M) : gW p l e R s m args below meth c D A nL cells slots Q P pc lv (.int (iI b) :: .int (iI a) :: st) M :=
  fun H locs ls hP hW hS hl => lv_imul C.1.1 C.1.2.1 hd (by rw [iI_mul]; exact k H locs ls hP hW hS hl)
theorem g_ineg (C : cX p m meth c cc nL s args own D tys A) {a : Int} (hd : decode cc pc = .ok (.ineg, 1)) (k : gW p l e R s m args below meth c D A nL cells slots Q P (pc + 1) lv (.int (iI (-a)) :: st) M) : gW p l e R s m args below meth c D A nL cells slots Q P pc lv (.int (iI a) :: st) M :=
  fun H locs ls hP hW hS hl => lv_ineg C.1.1 C.1.2.1 hd (by rw [iI_neg]; exact k H locs ls hP hW hS hl)
theorem g_ishl (C : cX p m meth c cc nL s args own D tys A) {x y : Int32} (z : Int) (hz : x <<< (y &&& 31) = iI z) (hd : decode cc pc = .ok (.ishl, 1)) (k : gW p l e R s m args below meth c D A nL cells slots Q P (pc + 1) lv (.int (iI z) :: st) M) : gW p l e R s m args below meth c D A nL cells slots Q P pc lv (.int y :: .int x :: st) M :=
  fun H locs ls hP hW hS hl => lv_ishl C.1.1 C.1.2.1 hd (by rw [hz]; exact k H locs ls hP hW hS hl)
theorem g_ishr (C : cX p m meth c cc nL s args own D tys A) {x y : Int32} (z : Int) (hz : x >>> (y &&& 31) = iI z) (hd : decode cc pc = .ok (.ishr, 1)) (k : gW p l e R s m args below meth c D A nL cells slots Q P (pc + 1) lv (.int (iI z) :: st) M) : gW p l e R s m args below meth c D A nL cells slots Q P pc lv (.int y :: .int x :: st) M :=
  fun H locs ls hP hW hS hl => lv_ishr C.1.1 C.1.2.1 hd (by rw [hz]; exact k H locs ls hP hW hS hl)
theorem g_iand (C : cX p m meth c cc nL s args own D tys A) {x y : Int32} (z : Int) (hz : x &&& y = iI z) (hd : decode cc pc = .ok (.iand, 1)) (k : gW p l e R s m args below meth c D A nL cells slots Q P (pc + 1) lv (.int (iI z) :: st) M) : gW p l e R s m args below meth c D A nL cells slots Q P pc lv (.int y :: .int x :: st) M :=
  fun H locs ls hP hW hS hl => lv_iand C.1.1 C.1.2.1 hd (by rw [hz]; exact k H locs ls hP hW hS hl)
theorem g_ior (C : cX p m meth c cc nL s args own D tys A) {x y : Int32} (z : Int) (hz : x ||| y = iI z) (hd : decode cc pc = .ok (.ior, 1)) (k : gW p l e R s m args below meth c D A nL cells slots Q P (pc + 1) lv (.int (iI z) :: st) M) : gW p l e R s m args below meth c D A nL cells slots Q P pc lv (.int y :: .int x :: st) M :=
  fun H locs ls hP hW hS hl => lv_ior C.1.1 C.1.2.1 hd (by rw [hz]; exact k H locs ls hP hW hS hl)
theorem g_dup (C : cX p m meth c cc nL s args own D tys A) {v : Value} (hv : v.category = 1) (hd : decode cc pc = .ok (.dup, 1)) (k : gW p l e R s m args below meth c D A nL cells slots Q P (pc + 1) lv (v :: v :: st) M) : gW p l e R s m args below meth c D A nL cells slots Q P pc lv (v :: st) M :=
  fun H locs ls hP hW hS hl => lv_dup C.1.1 C.1.2.1 hd hv (k H locs ls hP hW hS hl)
theorem g_pop (C : cX p m meth c cc nL s args own D tys A) {v : Value} (hv : v.category = 1) (hd : decode cc pc = .ok (.pop, 1)) (k : gW p l e R s m args below meth c D A nL cells slots Q P (pc + 1) lv st M) : gW p l e R s m args below meth c D A nL cells slots Q P pc lv (v :: st) M :=
  fun H locs ls hP hW hS hl => lv_pop C.1.1 C.1.2.1 hd hv (k H locs ls hP hW hS hl)
theorem g_dup2 (C : cX p m meth c cc nL s args own D tys A) {v w : Value} (hv : v.category = 1) (hw : w.category = 1) (hd : decode cc pc = .ok (.dup2, 1)) (k : gW p l e R s m args below meth c D A nL cells slots Q P (pc + 1) lv (v :: w :: v :: w :: st) M) : gW p l e R s m args below meth c D A nL cells slots Q P pc lv (v :: w :: st) M :=
  fun H locs ls hP hW hS hl => lv_dup2_11 C.1.1 C.1.2.1 hd hv hw (k H locs ls hP hW hS hl)
theorem g_dup_x1 (C : cX p m meth c cc nL s args own D tys A) {v w : Value} (hv : v.category = 1) (hw : w.category = 1) (hd : decode cc pc = .ok (.dup_x1, 1)) (k : gW p l e R s m args below meth c D A nL cells slots Q P (pc + 1) lv (v :: w :: v :: st) M) : gW p l e R s m args below meth c D A nL cells slots Q P pc lv (v :: w :: st) M :=
  fun H locs ls hP hW hS hl => lv_dup_x1 C.1.1 C.1.2.1 hd hv hw (k H locs ls hP hW hS hl)
theorem g_goto (C : cX p m meth c cc nL s args own D tys A) {off : Int} (tgt : Nat) (hd : decode cc pc = .ok (.goto off, 3)) (ht : (pc : Int) + off = (tgt : Int)) (k : gW p l e R s m args below meth c D A nL cells slots Q P tgt lv st M) : gW p l e R s m args below meth c D A nL cells slots Q P pc lv st M :=
  fun H locs ls hP hW hS hl => lv_goto C.1.1 C.1.2.1 hd ht (k H locs ls hP hW hS hl)
/-- fewer locals, in any order, by their places -/
theorem g_sub (ks : List Nat) (hk : lv_pick lv ks = lv') (k : gW p l e R s m args below meth c D A nL cells slots Q P pc lv' st M) : gW p l e R s m args below meth c D A nL cells slots Q P pc lv st M :=
  fun H locs ls hP hW hS hl => k H locs ls hP hW hS (lv_sub hl ks hk)
theorem g_world {M' : Wm} (hM : M = M') (k : gW p l e R s m args below meth c D A nL cells slots Q P pc lv st M') : gW p l e R s m args below meth c D A nL cells slots Q P pc lv st M := by
  rw [hM]; exact k
theorem g_widen {k n : Nat} (h1 : cells ≤ k) (h2 : slots ≤ n) (kk : gW p l e R s m args below meth c D A nL k n Q P pc lv st M) : gW p l e R s m args below meth c D A nL cells slots Q P pc lv st M :=
  fun H locs ls hP hW hS hl => W.widen h1 h2 (kk H locs ls hP hW hS hl)
theorem g_icmp_eq (C : cX p m meth c cc nL s args own D tys A) {a b off : Int} (tgt : Nat) (hd : decode cc pc = .ok (.if_icmp .eq off, 3)) (ht : (pc : Int) + off = (tgt : Int)) (hr : (-2147483648 ≤ a ∧ a < 2147483648) ∧ (-2147483648 ≤ b ∧ b < 2147483648))
    (kt : a = b → gW p l e R s m args below meth c D A nL cells slots Q P tgt lv st M) (kf : ¬ (a = b) → gW p l e R s m args below meth c D A nL cells slots Q P (pc + 3) lv st M) : gW p l e R s m args below meth c D A nL cells slots Q P pc lv (.int (iI b) :: .int (iI a) :: st) M := by
  obtain ⟨ha, hb⟩ := hr
  intro H locs ls hP hW hS hl
  refine lv_icmp_eq C.1.1 C.1.2.1 hd ht (fun q => kt ((iI_eq ha hb).mp q) H locs ls hP hW hS hl) (fun q => kf (fun z => q ?_) H locs ls hP hW hS hl)
  have q := z
  exact (iI_eq ha hb).mpr q
theorem g_icmp_ne (C : cX p m meth c cc nL s args own D tys A) {a b off : Int} (tgt : Nat) (hd : decode cc pc = .ok (.if_icmp .ne off, 3)) (ht : (pc : Int) + off = (tgt : Int)) (hr : (-2147483648 ≤ a ∧ a < 2147483648) ∧ (-2147483648 ≤ b ∧ b < 2147483648))
    (kt : ¬ a = b → gW p l e R s m args below meth c D A nL cells slots Q P tgt lv st M) (kf : a = b → gW p l e R s m args below meth c D A nL cells slots Q P (pc + 3) lv st M) : gW p l e R s m args below meth c D A nL cells slots Q P pc lv (.int (iI b) :: .int (iI a) :: st) M := by
  obtain ⟨ha, hb⟩ := hr
  intro H locs ls hP hW hS hl
  refine lv_icmp_ne C.1.1 C.1.2.1 hd ht (fun q => kt (fun r => q ((iI_eq ha hb).mpr r)) H locs ls hP hW hS hl) (fun q => kf ((iI_eq ha hb).mp q) H locs ls hP hW hS hl)
theorem g_icmp_lt (C : cX p m meth c cc nL s args own D tys A) {a b off : Int} (tgt : Nat) (hd : decode cc pc = .ok (.if_icmp .lt off, 3)) (ht : (pc : Int) + off = (tgt : Int)) (hr : (-2147483648 ≤ a ∧ a < 2147483648) ∧ (-2147483648 ≤ b ∧ b < 2147483648))
    (kt : a < b → gW p l e R s m args below meth c D A nL cells slots Q P tgt lv st M) (kf : ¬ (a < b) → gW p l e R s m args below meth c D A nL cells slots Q P (pc + 3) lv st M) : gW p l e R s m args below meth c D A nL cells slots Q P pc lv (.int (iI b) :: .int (iI a) :: st) M := by
  obtain ⟨ha, hb⟩ := hr
  intro H locs ls hP hW hS hl
  refine lv_icmp_lt C.1.1 C.1.2.1 hd ht (fun q => kt ((iI_lt ha hb).mp q) H locs ls hP hW hS hl) (fun q => kf (fun z => q ?_) H locs ls hP hW hS hl)
  have q := z
  exact (iI_lt ha hb).mpr q
theorem g_icmp_ge (C : cX p m meth c cc nL s args own D tys A) {a b off : Int} (tgt : Nat) (hd : decode cc pc = .ok (.if_icmp .ge off, 3)) (ht : (pc : Int) + off = (tgt : Int)) (hr : (-2147483648 ≤ a ∧ a < 2147483648) ∧ (-2147483648 ≤ b ∧ b < 2147483648))
    (kt : b ≤ a → gW p l e R s m args below meth c D A nL cells slots Q P tgt lv st M) (kf : ¬ (b ≤ a) → gW p l e R s m args below meth c D A nL cells slots Q P (pc + 3) lv st M) : gW p l e R s m args below meth c D A nL cells slots Q P pc lv (.int (iI b) :: .int (iI a) :: st) M := by
  obtain ⟨ha, hb⟩ := hr
  intro H locs ls hP hW hS hl
  refine lv_icmp_ge C.1.1 C.1.2.1 hd ht (fun q => kt ((iI_le hb ha).mp q) H locs ls hP hW hS hl) (fun q => kf (fun z => q ?_) H locs ls hP hW hS hl)
  have q := z
  exact (iI_le hb ha).mpr q
theorem g_icmp_gt (C : cX p m meth c cc nL s args own D tys A) {a b off : Int} (tgt : Nat) (hd : decode cc pc = .ok (.if_icmp .gt off, 3)) (ht : (pc : Int) + off = (tgt : Int)) (hr : (-2147483648 ≤ a ∧ a < 2147483648) ∧ (-2147483648 ≤ b ∧ b < 2147483648))
    (kt : b < a → gW p l e R s m args below meth c D A nL cells slots Q P tgt lv st M) (kf : ¬ (b < a) → gW p l e R s m args below meth c D A nL cells slots Q P (pc + 3) lv st M) : gW p l e R s m args below meth c D A nL cells slots Q P pc lv (.int (iI b) :: .int (iI a) :: st) M := by
  obtain ⟨ha, hb⟩ := hr
  intro H locs ls hP hW hS hl
  refine lv_icmp_gt C.1.1 C.1.2.1 hd ht (fun q => kt ((iI_lt hb ha).mp q) H locs ls hP hW hS hl) (fun q => kf (fun z => q ?_) H locs ls hP hW hS hl)
  have q := z
  exact (iI_lt hb ha).mpr q
theorem g_icmp_le (C : cX p m meth c cc nL s args own D tys A) {a b off : Int} (tgt : Nat) (hd : decode cc pc = .ok (.if_icmp .le off, 3)) (ht : (pc : Int) + off = (tgt : Int)) (hr : (-2147483648 ≤ a ∧ a < 2147483648) ∧ (-2147483648 ≤ b ∧ b < 2147483648))
    (kt : a ≤ b → gW p l e R s m args below meth c D A nL cells slots Q P tgt lv st M) (kf : ¬ (a ≤ b) → gW p l e R s m args below meth c D A nL cells slots Q P (pc + 3) lv st M) : gW p l e R s m args below meth c D A nL cells slots Q P pc lv (.int (iI b) :: .int (iI a) :: st) M := by
  obtain ⟨ha, hb⟩ := hr
  intro H locs ls hP hW hS hl
  refine lv_icmp_le C.1.1 C.1.2.1 hd ht (fun q => kt ((iI_le ha hb).mp q) H locs ls hP hW hS hl) (fun q => kf (fun z => q ?_) H locs ls hP hW hS hl)
  have q := z
  exact (iI_le ha hb).mpr q
theorem g_if_eq (C : cX p m meth c cc nL s args own D tys A) {a off : Int} (tgt : Nat) (hd : decode cc pc = .ok (.ifCond .eq off, 3)) (ht : (pc : Int) + off = (tgt : Int)) (ha : (-2147483648 ≤ a ∧ a < 2147483648))
    (kt : a = 0 → gW p l e R s m args below meth c D A nL cells slots Q P tgt lv st M) (kf : ¬ (a = 0) → gW p l e R s m args below meth c D A nL cells slots Q P (pc + 3) lv st M) : gW p l e R s m args below meth c D A nL cells slots Q P pc lv (.int (iI a) :: st) M := by
  have h0 : -2147483648 ≤ (0 : Int) ∧ (0 : Int) < 2147483648 := by omega
  intro H locs ls hP hW hS hl
  refine lv_if_eq C.1.1 C.1.2.1 hd ht (fun q => kt ((iI_eq ha h0).mp q) H locs ls hP hW hS hl) (fun q => kf (fun z => q ?_) H locs ls hP hW hS hl)
  have q := z
  exact (iI_eq ha h0).mpr q
theorem g_if_ne (C : cX p m meth c cc nL s args own D tys A) {a off : Int} (tgt : Nat) (hd : decode cc pc = .ok (.ifCond .ne off, 3)) (ht : (pc : Int) + off = (tgt : Int)) (ha : (-2147483648 ≤ a ∧ a < 2147483648))
    (kt : ¬ a = 0 → gW p l e R s m args below meth c D A nL cells slots Q P tgt lv st M) (kf : a = 0 → gW p l e R s m args below meth c D A nL cells slots Q P (pc + 3) lv st M) : gW p l e R s m args below meth c D A nL cells slots Q P pc lv (.int (iI a) :: st) M := by
  have h0 : -2147483648 ≤ (0 : Int) ∧ (0 : Int) < 2147483648 := by omega
  intro H locs ls hP hW hS hl
  refine lv_if_ne C.1.1 C.1.2.1 hd ht (fun q => kt (fun r => q ((iI_eq ha h0).mpr r)) H locs ls hP hW hS hl) (fun q => kf ((iI_eq ha h0).mp q) H locs ls hP hW hS hl)
theorem g_if_lt (C : cX p m meth c cc nL s args own D tys A) {a off : Int} (tgt : Nat) (hd : decode cc pc = .ok (.ifCond .lt off, 3)) (ht : (pc : Int) + off = (tgt : Int)) (ha : (-2147483648 ≤ a ∧ a < 2147483648))
    (kt : a < 0 → gW p l e R s m args below meth c D A nL cells slots Q P tgt lv st M) (kf : ¬ (a < 0) → gW p l e R s m args below meth c D A nL cells slots Q P (pc + 3) lv st M) : gW p l e R s m args below meth c D A nL cells slots Q P pc lv (.int (iI a) :: st) M := by
  have h0 : -2147483648 ≤ (0 : Int) ∧ (0 : Int) < 2147483648 := by omega
  intro H locs ls hP hW hS hl
  refine lv_if_lt C.1.1 C.1.2.1 hd ht (fun q => kt ((iI_lt ha h0).mp q) H locs ls hP hW hS hl) (fun q => kf (fun z => q ?_) H locs ls hP hW hS hl)
  have q := z
  exact (iI_lt ha h0).mpr q
theorem g_if_ge (C : cX p m meth c cc nL s args own D tys A) {a off : Int} (tgt : Nat) (hd : decode cc pc = .ok (.ifCond .ge off, 3)) (ht : (pc : Int) + off = (tgt : Int)) (ha : (-2147483648 ≤ a ∧ a < 2147483648))
    (kt : 0 ≤ a → gW p l e R s m args below meth c D A nL cells slots Q P tgt lv st M) (kf : ¬ (0 ≤ a) → gW p l e R s m args below meth c D A nL cells slots Q P (pc + 3) lv st M) : gW p l e R s m args below meth c D A nL cells slots Q P pc lv (.int (iI a) :: st) M := by
  have h0 : -2147483648 ≤ (0 : Int) ∧ (0 : Int) < 2147483648 := by omega
  intro H locs ls hP hW hS hl
  refine lv_if_ge C.1.1 C.1.2.1 hd ht (fun q => kt ((iI_le h0 ha).mp q) H locs ls hP hW hS hl) (fun q => kf (fun z => q ?_) H locs ls hP hW hS hl)
  have q := z
  exact (iI_le h0 ha).mpr q
theorem g_if_gt (C : cX p m meth c cc nL s args own D tys A) {a off : Int} (tgt : Nat) (hd : decode cc pc = .ok (.ifCond .gt off, 3)) (ht : (pc : Int) + off = (tgt : Int)) (ha : (-2147483648 ≤ a ∧ a < 2147483648))
    (kt : 0 < a → gW p l e R s m args below meth c D A nL cells slots Q P tgt lv st M) (kf : ¬ (0 < a) → gW p l e R s m args below meth c D A nL cells slots Q P (pc + 3) lv st M) : gW p l e R s m args below meth c D A nL cells slots Q P pc lv (.int (iI a) :: st) M := by
  have h0 : -2147483648 ≤ (0 : Int) ∧ (0 : Int) < 2147483648 := by omega
  intro H locs ls hP hW hS hl
  refine lv_if_gt C.1.1 C.1.2.1 hd ht (fun q => kt ((iI_lt h0 ha).mp q) H locs ls hP hW hS hl) (fun q => kf (fun z => q ?_) H locs ls hP hW hS hl)
  have q := z
  exact (iI_lt h0 ha).mpr q
theorem g_if_le (C : cX p m meth c cc nL s args own D tys A) {a off : Int} (tgt : Nat) (hd : decode cc pc = .ok (.ifCond .le off, 3)) (ht : (pc : Int) + off = (tgt : Int)) (ha : (-2147483648 ≤ a ∧ a < 2147483648))
    (kt : a ≤ 0 → gW p l e R s m args below meth c D A nL cells slots Q P tgt lv st M) (kf : ¬ (a ≤ 0) → gW p l e R s m args below meth c D A nL cells slots Q P (pc + 3) lv st M) : gW p l e R s m args below meth c D A nL cells slots Q P pc lv (.int (iI a) :: st) M := by
  have h0 : -2147483648 ≤ (0 : Int) ∧ (0 : Int) < 2147483648 := by omega
  intro H locs ls hP hW hS hl
  refine lv_if_le C.1.1 C.1.2.1 hd ht (fun q => kt ((iI_le ha h0).mp q) H locs ls hP hW hS hl) (fun q => kf (fun z => q ?_) H locs ls hP hW hS hl)
  have q := z
  exact (iI_le ha h0).mpr q
theorem g_ifnull (C : cX p m meth c cc nL s args own D tys A) {x : Nat} {off : Int} (hd : decode cc pc = .ok (.ifnull off, 3)) (k : gW p l e R s m args below meth c D A nL cells slots Q P (pc + 3) lv st M) : gW p l e R s m args below meth c D A nL cells slots Q P pc lv (.ref x :: st) M :=
  fun H locs ls hP hW hS hl => lv_ifnull C.1.1 C.1.2.1 hd (k H locs ls hP hW hS hl)
theorem g_ifnullN (C : cX p m meth c cc nL s args own D tys A) {off : Int} (tgt : Nat) (hd : decode cc pc = .ok (.ifnull off, 3)) (ht : (pc : Int) + off = (tgt : Int)) (k : gW p l e R s m args below meth c D A nL cells slots Q P tgt lv st M) : gW p l e R s m args below meth c D A nL cells slots Q P pc lv (.null :: st) M :=
  fun H locs ls hP hW hS hl => lv_ifnullN C.1.1 C.1.2.1 hd ht (k H locs ls hP hW hS hl)
theorem g_ifnonnull (C : cX p m meth c cc nL s args own D tys A) {x : Nat} {off : Int} (tgt : Nat) (hd : decode cc pc = .ok (.ifnonnull off, 3)) (ht : (pc : Int) + off = (tgt : Int)) (k : gW p l e R s m args below meth c D A nL cells slots Q P tgt lv st M) : gW p l e R s m args below meth c D A nL cells slots Q P pc lv (.ref x :: st) M :=
  fun H locs ls hP hW hS hl => lv_ifnonnull C.1.1 C.1.2.1 hd ht (k H locs ls hP hW hS hl)
theorem g_ifnonnullN (C : cX p m meth c cc nL s args own D tys A) {off : Int} (hd : decode cc pc = .ok (.ifnonnull off, 3)) (k : gW p l e R s m args below meth c D A nL cells slots Q P (pc + 3) lv st M) : gW p l e R s m args below meth c D A nL cells slots Q P pc lv (.null :: st) M :=
  fun H locs ls hP hW hS hl => lv_ifnonnullN C.1.1 C.1.2.1 hd (k H locs ls hP hW hS hl)
end XR
/-- a getfield of own at the pool's index: field k of the world's class ci -/
def xF (own : String) (index ci k : Nat) : Prop := ∃ (CN : String) (T : u_T) (N : Nat), xCl[ci]? = some (CN, T, N) ∧ (∀ w ∈ u_ws CN T N, w ∈ xAll) ∧ k < N ∧ (Cond.fieldLink own index (T k).1 (T k).2.1 (T k).2.2.1 ∈ xAll ∨ ∃ host, Cond.fieldLinkNest own index (T k).1 (T k).2.1 (T k).2.2.1 host ∈ xNw)
/-- a putfield, of a field that isn't final, of the type ty -/
def xP (own : String) (index ci k : Nat) (ty : FieldType) : Prop := ∃ (CN : String) (T : u_T) (N : Nat) (ty0 : Nat → FieldType), xCl[ci]? = some (CN, T, N) ∧ (∀ w ∈ u_ws CN T N, w ∈ xAll) ∧ (∀ k, k < N → parseFieldDescriptor (T k).2.2.1 = some (ty0 k)) ∧ (∀ a, a < N → ∀ b, b < N → a ≠ b → (T a).2.1 ≠ (T b).2.1) ∧ k < N ∧ (Cond.fieldLink own index (T k).1 (T k).2.1 (T k).2.2.1 ∈ xAll ∨ ∃ host, Cond.fieldLinkNest own index (T k).1 (T k).2.1 (T k).2.2.1 host ∈ xNw) ∧ parseFieldDescriptor (T k).2.2.1 = some ty ∧ (T k).2.2.2 = false
/-- of a final one, in its class's constructor -/
def xPF (own : String) (index ci k : Nat) (ty : FieldType) : Prop := ∃ (CN : String) (T : u_T) (N : Nat) (ty0 : Nat → FieldType), xCl[ci]? = some (CN, T, N) ∧ (∀ w ∈ u_ws CN T N, w ∈ xAll) ∧ (∀ k, k < N → parseFieldDescriptor (T k).2.2.1 = some (ty0 k)) ∧ (∀ a, a < N → ∀ b, b < N → a ≠ b → (T a).2.1 ≠ (T b).2.1) ∧ k < N ∧ Cond.fieldLink own index (T k).1 (T k).2.1 (T k).2.2.1 ∈ xAll ∧ parseFieldDescriptor (T k).2.2.1 = some ty ∧ (T k).2.2.2 = true ∧ (T k).1 = own
def tc (tys : xK) (k : Nat) : ClassId := (tys.getD k (0, .int)).1
section XO
variable {p : Program} {l : Launch} {e : Env} {R : Room} {s : State} {m : MethodId} {args : Array Value} {below : List Frame} {meth : Method} {c : Code} {cells slots : Nat} {Q : State → Prop} {P : Heap → List Loc → Prop}
variable {cc : ByteArray} {pc nL : Nat} {own : String} {D : va_G} {A : Nat → Prop} {tys : xK} {lv lv' : List (Nat × Value)} {st : List Value} {M : Wm}
theorem g_get (C : cX p m meth c cc nL s args own D tys A) {ci k index a : Nat} {fs : List Value} {v : Value} (hF : xF own index ci k) (he : M a = some (.inr (ci, fs))) (hv : fs[k]? = some v) (hd : decode cc pc = .ok (.getfield index, 3)) (kk : gW p l e R s m args below meth c D A nL cells slots Q P (pc + 3) lv (v :: st) M) : gW p l e R s m args below meth c D A nL cells slots Q P pc lv (.ref a :: st) M := by
  obtain ⟨CN, T, N, hc, hin, hk, hl | ⟨host, hl⟩⟩ := hF
  · exact fun H locs ls hP hW hS hls => va_get C.1.1 C.1.2.1 C.1.2.2.2.2 hin C.1.2.2.2.1 C.2.1 (wd_one hW he) 0 rfl hc k hk (C.1.2.2.2.2 _ hl) (fun _ h => h) hv hd (kk H locs ls hP hW hS hls)
  · exact fun H locs ls hP hW hS hls => va_getN C.1.1 C.1.2.1 C.1.2.2.2.2 hin C.1.2.2.2.1 C.2.1 (wd_one hW he) 0 rfl hc k hk (va_Nw.use rfl (C.2.2.1 _ hl)) (fun _ h => h) hv hd (kk H locs ls hP hW hS hls)
theorem g_put (C : cX p m meth c cc nL s args own D tys A) {ci k index a : Nat} {ty : FieldType} {fs fs' : List Value} {v : Value} (hF : xP own index ci k ty) (he : M a = some (.inr (ci, fs))) (hn : narrow ty v = v) (hfit : fits ty v = true) (hlen : k < fs.length) (hfs : fs.set k v = fs') (hd : decode cc pc = .ok (.putfield index, 3)) (kk : gW p l e R s m args below meth c D A nL cells slots Q wX (pc + 3) lv st (va_up M a (some (.inr (ci, fs'))))) : gW p l e R s m args below meth c D A nL cells slots Q P pc lv (v :: .ref a :: st) M := by
  subst hfs
  obtain ⟨CN, T, N, ty0, hc, hin, hty, hnm, hk, hl, hdp, hfin⟩ := hF
  intro H locs ls hP hW hS hls
  obtain ⟨q0, hq0⟩ := wd_ls_at hW he
  rcases hl with hl | ⟨host, hl⟩
  · exact va_put C.1.1 C.1.2.1 C.1.2.2.2.2 hin ty0 hty hnm C.1.2.2.2.1 C.2.1 (wd_ls_P hW _) (wd_ls_D hW _) hS q0 hq0 hc k hk (C.1.2.2.2.2 _ hl) (fun _ h => h) hfin hdp hn hfit hlen hd (fun H1 locs1 h1 _ hS1 => kk H1 locs1 ls trivial (wd_set hW hq0 h1) hS1 hls)
  · exact va_putN C.1.1 C.1.2.1 C.1.2.2.2.2 hin ty0 hty hnm C.1.2.2.2.1 C.2.1 (wd_ls_P hW _) (wd_ls_D hW _) hS q0 hq0 hc k hk (va_Nw.use rfl (C.2.2.1 _ hl)) (fun _ h => h) hfin hdp hn hfit hlen hd (fun H1 locs1 h1 _ hS1 => kk H1 locs1 ls trivial (wd_set hW hq0 h1) hS1 hls)
theorem g_putF (C : cX p m meth c cc nL s args own D tys A) (hin2 : meth.name = "<init>") {ci k index a : Nat} {ty : FieldType} {fs fs' : List Value} {v : Value} (hF : xPF own index ci k ty) (he : M a = some (.inr (ci, fs))) (hn : narrow ty v = v) (hfit : fits ty v = true) (hlen : k < fs.length) (hfs : fs.set k v = fs') (hd : decode cc pc = .ok (.putfield index, 3)) (kk : gW p l e R s m args below meth c D A nL cells slots Q wX (pc + 3) lv st (va_up M a (some (.inr (ci, fs'))))) : gW p l e R s m args below meth c D A nL cells slots Q P pc lv (v :: .ref a :: st) M := by
  subst hfs
  obtain ⟨CN, T, N, ty0, hc, hin, hty, hnm, hk, hl, hdp, hfin, hdecl⟩ := hF
  intro H locs ls hP hW hS hls
  obtain ⟨q0, hq0⟩ := wd_ls_at hW he
  exact va_putF C.1.1 C.1.2.1 C.1.2.2.2.2 hin ty0 hty hnm C.1.2.2.2.1 C.2.1 (wd_ls_P hW _) (wd_ls_D hW _) hS q0 hq0 hc k hk (C.1.2.2.2.2 _ hl) (fun _ h => h) hfin hin2 hdecl hdp hn hfit hlen hd (fun H1 locs1 h1 _ hS1 => kk H1 locs1 ls trivial (wd_set hW hq0 h1) hS1 hls)
theorem g_iald (C : cX p m meth c cc nL s args own D tys A) {a n : Nat} {f : Nat → Int} {z : Int} (t0 : Nat) (ht : tys[t0]? = some (tc tys t0, .int)) (he : M a = some (.inl (tc tys t0, n, .inl (fun j => iI (f j))))) (hz : (0 ≤ z ∧ z < n) ∧ n < 2147483648) (hd : decode cc pc = .ok (.iaload, 1)) (kk : gW p l e R s m args below meth c D A nL cells slots Q P (pc + 1) lv (.int (iI (f z.toNat)) :: st) M) : gW p l e R s m args below meth c D A nL cells slots Q P pc lv (.int (iI z) :: .ref a :: st) M := by
  intro H locs ls hP hW hS hls
  refine va_iald C.1.1 C.1.2.1 C.2.1 (wd_one hW he) 0 t0 rfl ht (iI_in hz.1 hz.2) hd ?_
  rw [iI_clamp (by omega)]
  exact kk H locs ls hP hW hS hls
theorem iI_upd (f : Nat → Int) (k : Nat) (v : Int) : upd (fun j => iI (f j)) k (iI v) = fun j => iI (va_up f k v j) := by
  funext j
  unfold upd va_up
  by_cases h : j = k
  · rw [if_pos h, if_pos h]
  · rw [if_neg h, if_neg h]
theorem g_iast (C : cX p m meth c cc nL s args own D tys A) {a n : Nat} {f : Nat → Int} {z v : Int} (t0 : Nat) (ht : tys[t0]? = some (tc tys t0, .int)) (he : M a = some (.inl (tc tys t0, n, .inl (fun j => iI (f j))))) (hz : (0 ≤ z ∧ z < n) ∧ n < 2147483648) (hd : decode cc pc = .ok (.iastore, 1)) (kk : gW p l e R s m args below meth c D A nL cells slots Q wX (pc + 1) lv st (va_up M a (some (.inl (tc tys t0, n, .inl (fun j => iI (va_up f z.toNat v j))))))) : gW p l e R s m args below meth c D A nL cells slots Q P pc lv (.int (iI v) :: .int (iI z) :: .ref a :: st) M := by
  intro H locs ls hP hW hS hls
  obtain ⟨q0, hq0⟩ := wd_ls_at hW he
  refine va_iast C.1.1 C.1.2.1 C.2.1 (wd_ls_P hW _) (wd_ls_D hW _) hS q0 t0 hq0 ht (iI_in hz.1 hz.2) hd (fun H1 locs1 h1 _ hS1 => ?_)
  have h2 := wd_set hW hq0 h1
  rw [iI_clamp (by omega), iI_upd] at h2
  exact kk H1 locs1 ls trivial h2 hS1 hls
theorem g_aald (C : cX p m meth c cc nL s args own D tys A) {a n b : Nat} {f : Nat → Option Nat} {z : Int} {CN : String} (t0 : Nat) (ht : tys[t0]? = some (tc tys t0, .object CN)) (he : M a = some (.inl (tc tys t0, n, .inr (.inr (.inr (.inr f)))))) (hz : (0 ≤ z ∧ z < n) ∧ n < 2147483648) (hb : f z.toNat = some b) (hd : decode cc pc = .ok (.aaload, 1)) (kk : gW p l e R s m args below meth c D A nL cells slots Q P (pc + 1) lv (.ref b :: st) M) : gW p l e R s m args below meth c D A nL cells slots Q P pc lv (.int (iI z) :: .ref a :: st) M := by
  intro H locs ls hP hW hS hls
  refine va_aldq C.1.1 C.1.2.1 C.2.1 (wd_one hW he) 0 t0 rfl ht (iI_in hz.1 hz.2) hd ?_
  rw [iI_clamp (by omega), hb]
  exact kk H locs ls hP hW hS hls
theorem g_aast (C : cX p m meth c cc nL s args own D tys A) {a n b ci : Nat} {f : Nat → Option Nat} {vs : List Value} {z : Int} {CN : String} {T : u_T} {N : Nat} (t0 : Nat) (ht : tys[t0]? = some (tc tys t0, .object CN)) (hc : xCl[ci]? = some (CN, T, N)) (he : M a = some (.inl (tc tys t0, n, .inr (.inr (.inr (.inr f)))))) (hb : M b = some (.inr (ci, vs))) (hz : (0 ≤ z ∧ z < n) ∧ n < 2147483648) (hd : decode cc pc = .ok (.aastore, 1)) (kk : gW p l e R s m args below meth c D A nL cells slots Q wX (pc + 1) lv st (va_up M a (some (.inl (tc tys t0, n, .inr (.inr (.inr (.inr (va_up f z.toNat (some b)))))))))) : gW p l e R s m args below meth c D A nL cells slots Q P pc lv (.ref b :: .int (iI z) :: .ref a :: st) M := by
  intro H locs ls hP hW hS hls
  obtain ⟨q0, hq0⟩ := wd_ls_at hW he
  obtain ⟨qk, hqk⟩ := wd_ls_at hW hb
  refine va_astq (r := (CN, T, N)) C.1.1 C.1.2.1 C.2.1 (wd_ls_P hW _) (wd_ls_D hW _) hS q0 t0 qk ci hq0 ht hqk hc (iI_in hz.1 hz.2) hd (fun H1 locs1 h1 _ hS1 => ?_)
  have h2 := wd_set hW hq0 h1
  rw [iI_clamp (by omega)] at h2
  exact kk H1 locs1 ls trivial h2 hS1 hls
theorem g_alen (C : cX p m meth c cc nL s args own D tys A) {a : Nat} {x : vp_A} {ty : FieldType} (t0 : Nat) (ht : tys[t0]? = some (tc tys t0, ty)) (he : M a = some (.inl (tc tys t0, x))) (hd : decode cc pc = .ok (.arraylength, 1)) (kk : gW p l e R s m args below meth c D A nL cells slots Q P (pc + 1) lv (.int (iI (x.1 : Nat)) :: st) M) : gW p l e R s m args below meth c D A nL cells slots Q P pc lv (.ref a :: st) M := by
  intro H locs ls hP hW hS hls
  exact va_alen C.1.1 C.1.2.1 C.2.1 (wd_one hW he) 0 t0 rfl ht (iI_nat x.1).symm hd (kk H locs ls hP hW hS hls)
end XO
