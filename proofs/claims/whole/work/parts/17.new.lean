/-! WHAT IS MADE, AND WHAT IS THROWN -/
/-- 'new' of own at the pool's index: an object of the world's class ci, its fields fs at first -/
def xN (own : String) (index ci : Nat) (fs : List Value) (n : Nat) : Prop := ∃ (CN : String) (T : u_T) (ty0 : Nat → FieldType), xCl[ci]? = some (CN, T, n) ∧ (∀ w ∈ u_ws CN T n, w ∈ xAll) ∧ (∀ k, k < n → parseFieldDescriptor (T k).2.2.1 = some (ty0 k)) ∧ Cond.classLink own index CN ∈ xAll ∧ Cond.instantiable CN n ∈ xAll ∧ Cond.initialized CN ∈ xAll ∧ ∀ j, j < n → defaultValue (ty0 j) = vp_V fs j
section XV
variable {p : Program} {l : Launch} {e : Env} {R : Room} {s : State} {m : MethodId} {args : Array Value} {below : List Frame} {meth : Method} {c : Code} {cells slots : Nat} {Q : State → Prop} {P : Heap → List Loc → Prop}
variable {cc : ByteArray} {pc nL : Nat} {own : String} {D : va_G} {A : Nat → Prop} {tys : xK} {lv lv' : List (Nat × Value)} {st : List Value} {M : Wm}
theorem g_objInit (C : cX p m meth c cc nL s args own D tys A) {index a : Nat} (hx : Cond.methodLink own index Lib.objectInit ∈ xAll ∧ Cond.instanceMethod Lib.objectInit ∈ xAll ∧ Cond.code Lib.objectInit ⟨#[0xb1]⟩ 1 none ∈ xAll) (hR : 1 ≤ R.frames ∧ (st.map fun v => v.category).sum + 12 ≤ R.locals) (hd : decode cc pc = .ok (.invokespecial index, 3)) (k : gW p l e R s m args below meth c D A nL cells slots Q P (pc + 3) lv st M) : gW p l e R s m args below meth c D A nL cells slots Q P pc lv (.ref a :: st) M := by
  have hts := C.1.2.2.2.2
  intro H locs ls hP hW hS hl
  exact W.objInit C.1.1 C.1.2.1 C.1.2.2.2.1 (hts _ hx.1) (hts _ hx.2.1) (hts _ hx.2.2) rfl (by rw [C.1.2.2.1]; exact hl.1) rfl hd hR.1 (by show 2 * 0 + _ + 12 ≤ _; have := hR.2; omega) (k H locs ls hP hW hS hl)
theorem g_new (C : cX p m meth c cc nL s args own D tys A) {index ci n : Nat} {fs : List Value} (hx : xN own index ci fs n) (hR : cells + 1 ≤ R.cells ∧ slots + n ≤ R.slots) (hd : decode cc pc = .ok (.new index, 3)) (k : ∀ q : Nat, M q = none → gW p l e R s m args below meth c D A nL (cells + 1) (slots + n) Q wX (pc + 3) lv (.ref q :: st) (va_up M q (some (.inr (ci, fs))))) : gW p l e R s m args below meth c D A nL cells slots Q P pc lv st M := by
  have hts := C.1.2.2.2.2
  obtain ⟨CN, T, ty0, hc, hin, hty, h1, h2, h3, hfs⟩ := hx
  intro H locs ls hP hW hS hl
  refine va_new C.1.1 C.1.2.1 hts hin ty0 hty C.1.2.2.2.1 (hts _ h1) (hts _ h2) (hts _ h3) C.2.1 (wd_ls_P hW H.size) (wd_ls_D hW H.size) hS C.2.2.2.1 hc hfs hR.1 hR.2 hd (fun q H1 g1 g2 g3 => ?_)
  obtain ⟨h4, h5⟩ := wd_push hW g1 g2
  exact k q h5 H1 locs ls trivial h4 g3 hl
theorem g_newI (C : cX p m meth c cc nL s args own D tys A) (t0 : Nat) (ht : tys[t0]? = some (tc tys t0, .int)) {z : Int} (n : Nat) (hx : Cond.arrayClass .int ∈ xAll) (hz : z = (n : Int) ∧ n ≤ 100000) (hR : cells + 1 ≤ R.cells ∧ slots + n ≤ R.slots) (hd : decode cc pc = .ok (.newarray .int, 2)) (k : ∀ q : Nat, M q = none → gW p l e R s m args below meth c D A nL (cells + 1) (slots + n) Q wX (pc + 2) lv (.ref q :: st) (va_up M q (some (.inl (tc tys t0, n, .inl (fun _ => iI 0)))))) : gW p l e R s m args below meth c D A nL cells slots Q P pc lv (.int (iI z) :: st) M := by
  have hts := C.1.2.2.2.2
  obtain ⟨rfl, hn⟩ := hz
  intro H locs ls hP hW hS hl
  have hb : -2147483648 ≤ (n : Int) ∧ (n : Int) < 2147483648 := by omega
  refine va_newa (ty := .int) (N' := n) (a0 := (n, .inl (fun _ => iI 0))) C.1.1 C.1.2.1 (atype := .int) (hts _ hx) rfl C.2.1 (wd_ls_P hW H.size) (wd_ls_D hW H.size) hS C.2.2.2.1 (fun _ => rfl) (by rw [Int32.lt_iff_toInt_lt, iI_toInt hb, Int32.toInt_zero]; omega) (by rw [iI_clamp hb]; omega) (by show n * 4 ≤ _; omega) hR.1 hR.2 hd (fun q cA H1 gK g1 g2 g3 => ?_)
  have e1 : s.vm.findClass ("[" ++ (FieldType.int).toString) = some cA := (gK.2 tys.length (cA, .int) (by simp)).2
  have e2 : s.vm.findClass ("[" ++ (FieldType.int).toString) = some (tc tys t0) := (C.2.1.2 t0 _ ht).2
  cases Option.some.inj (e1.symm.trans e2)
  obtain ⟨h4, h5⟩ := wd_push hW g1 g2
  exact k q h5 H1 locs ls trivial h4 g3 hl
theorem g_newL (C : cX p m meth c cc nL s args own D tys A) (t0 : Nat) (ht : tys[t0]? = some (tc tys t0, .long)) {z : Int} (n : Nat) (hx : Cond.arrayClass .long ∈ xAll) (hz : z = (n : Int) ∧ n ≤ 100000) (hR : cells + 1 ≤ R.cells ∧ slots + n ≤ R.slots) (hd : decode cc pc = .ok (.newarray .long, 2)) (k : ∀ q : Nat, M q = none → gW p l e R s m args below meth c D A nL (cells + 1) (slots + n) Q wX (pc + 2) lv (.ref q :: st) (va_up M q (some (.inl (tc tys t0, n, .inr (.inl (fun _ => 0))))))) : gW p l e R s m args below meth c D A nL cells slots Q P pc lv (.int (iI z) :: st) M := by
  have hts := C.1.2.2.2.2
  obtain ⟨rfl, hn⟩ := hz
  intro H locs ls hP hW hS hl
  have hb : -2147483648 ≤ (n : Int) ∧ (n : Int) < 2147483648 := by omega
  refine va_newa (ty := .long) (N' := n) (a0 := (n, .inr (.inl (fun _ => 0)))) C.1.1 C.1.2.1 (atype := .long) (hts _ hx) rfl C.2.1 (wd_ls_P hW H.size) (wd_ls_D hW H.size) hS C.2.2.2.1 (fun _ => rfl) (by rw [Int32.lt_iff_toInt_lt, iI_toInt hb, Int32.toInt_zero]; omega) (by rw [iI_clamp hb]; omega) (by show n * 8 ≤ _; omega) hR.1 hR.2 hd (fun q cA H1 gK g1 g2 g3 => ?_)
  have e1 : s.vm.findClass ("[" ++ (FieldType.long).toString) = some cA := (gK.2 tys.length (cA, .long) (by simp)).2
  have e2 : s.vm.findClass ("[" ++ (FieldType.long).toString) = some (tc tys t0) := (C.2.1.2 t0 _ ht).2
  cases Option.some.inj (e1.symm.trans e2)
  obtain ⟨h4, h5⟩ := wd_push hW g1 g2
  exact k q h5 H1 locs ls trivial h4 g3 hl
theorem g_newR (C : cX p m meth c cc nL s args own D tys A) (t0 : Nat) {CN : String} (ht : tys[t0]? = some (tc tys t0, .object CN)) {z : Int} {index : Nat} (n : Nat) (hx : Cond.classLink own index CN ∈ xAll ∧ Cond.arrayOver (.object CN) ∈ xNw) (hz : z = (n : Int) ∧ n ≤ 100000) (hR : cells + 1 ≤ R.cells ∧ slots + n ≤ R.slots) (hd : decode cc pc = .ok (.anewarray index, 3)) (k : ∀ q : Nat, M q = none → gW p l e R s m args below meth c D A nL (cells + 1) (slots + n) Q wX (pc + 3) lv (.ref q :: st) (va_up M q (some (.inl (tc tys t0, n, .inr (.inr (.inr (.inr (fun _ => none))))))))) : gW p l e R s m args below meth c D A nL cells slots Q P pc lv (.int (iI z) :: st) M := by
  have hts := C.1.2.2.2.2
  obtain ⟨rfl, hn⟩ := hz
  intro H locs ls hP hW hS hl
  have hb : -2147483648 ≤ (n : Int) ∧ (n : Int) < 2147483648 := by omega
  refine va_newq (N' := n) C.1.1 C.1.2.1 C.1.2.2.2.1 (hts _ hx.1) (C.2.2.1 _ hx.2) C.2.1 (wd_ls_P hW H.size) (wd_ls_D hW H.size) hS C.2.2.2.1 (by rw [Int32.lt_iff_toInt_lt, iI_toInt hb, Int32.toInt_zero]; omega) (by rw [iI_clamp hb]; omega) (by omega) hR.1 hR.2 hd (fun q cA H1 gK g1 g2 g3 => ?_)
  obtain ⟨-, -, -, -, -, e1⟩ := (gK.2 tys.length (cA, .object CN) (by simp)).2
  obtain ⟨-, -, -, -, -, e2⟩ := (C.2.1.2 t0 _ ht).2
  cases Option.some.inj (e1.symm.trans e2)
  obtain ⟨h4, h5⟩ := wd_push hW g1 g2
  exact k q h5 H1 locs ls trivial h4 g3 hl
/-- the words of a throw -/
theorem hat_of (C : cX p m meth c cc nL s args own D tys A) {L : List Cond} (h1 : ∀ w ∈ L.filter goodWord, w ∈ xAll) (h2 : ∀ w ∈ L.filter (fun w => !goodWord w), w ∈ xNw ∧ w.onTables = true) : ∀ w ∈ L, w.before args s = true :=
  vx_hat (B := L.filter (fun w => !goodWord w)) (fun w h => C.1.2.2.2.2 w (h1 w h)) (fun w h => h) (fun w h => va_Nw.use (h2 w h).2 (C.2.2.1 w (h2 w h).1))
end XV
abbrev xNm : List String := ["java/lang/RuntimeException", "java/lang/Exception"]
abbrev xIA : String := "java/lang/IllegalArgumentException"
abbrev xIS : String := "java/lang/IllegalStateException"
/-- what holds where E was thrown: the world is as it was -/
abbrev qX (D : va_G) (A : Nat → Prop) (M : Wm) (px : String → Prop) : String → State → State → Prop := vx_X (fun _ : Unit => True) (fun E _ t => px E ∧ wd_ok D xCl A M t.heap) A
/-- the contract of a method that may throw -/
abbrev xT (l : Launch) (y : MethodName) (cc : ByteArray) (maxL : Nat) (ret : Option FieldType) (rm : Room) (D : va_G) (tys : xK) (A : Nat → Prop) (av : List Value) (M : Wm) (Qc : Array Value → State → Outcome → State → Prop) (px : String → Prop) (mc ms : Nat) : Prop := vx_Met l y (wsY y cc maxL ret) rm (va_Pc av (cT D tys A M)) Qc (qX D A M px) mc ms A
theorem xet_of {own : String} {l : Launch} {y : MethodName} {cc : ByteArray} {maxL : Nat} {ret : Option FieldType} {rm : Room} {D : va_G} {tys : xK} {A : Nat → Prop} {av : List Value} {lv : List (Nat × Value)} {M : Wm} {Qc : Array Value → State → Outcome → State → Prop} {px : String → Prop} {mc ms : Nat}
    (ho : y.cls = own) (hy : plainName own = true) (hlen : (lg_sl av).length ≤ maxL) (hlv : lv_args 0 av = lv)
    (body : ∀ (p : Program) (e : Env) (s : State) (m : MethodId) (below : List Frame) (meth : Method) (c : Code), cX p m meth c cc maxL s av.toArray own D tys A → meth.sig.returnType = ret → (∀ x ∈ c.exceptionTable.toList, False) → gW p l e rm s m av.toArray below meth c D A maxL 0 0 (vx_MQ below Qc (qX D A M px) av.toArray s mc ms A) (wN s) 0 lv [] M) : xT l y cc maxL ret rm D tys A av M Qc px mc ms := by
  subst hlv
  subst ho
  refine vx_ofW (cc := cc) (maxL := maxL) (ret := ret) hy rfl ?_
  intro p e s m args below meth c s₁ B hml hex hv
  obtain ⟨rfl, hW, hK, hN, hA, hZ⟩ := hv
  have hts := atoms_spec (ws := wsY y cc maxL ret) B.pre
  have hown : s.vm.findClass y.cls = some m.cls := findClass_of_methodNamed B.named
  have hl := lv_entry av (n := maxL) hlen
  rw [lg_entry_eq]
  exact body p e s m below meth c ⟨⟨B.exec, B.bytes, hml, hown, fun w h => hts w (List.mem_cons_of_mem _ h)⟩, hK, hN, hA, B.notSynchronized, hZ⟩ B.returns hex s.heap [] _ ⟨rfl, rfl⟩ hW va_S.rf hl
section XY
variable {p : Program} {l : Launch} {e : Env} {R : Room} {s : State} {m : MethodId} {args : Array Value} {below : List Frame} {meth : Method} {c : Code} {cells slots : Nat} {P : Heap → List Loc → Prop}
variable {cc : ByteArray} {pc nL : Nat} {own : String} {D : va_G} {A : Nat → Prop} {tys : xK} {lv : List (Nat × Value)} {st : List Value} {M : Wm} {Qc : Array Value → State → Outcome → State → Prop} {px : String → Prop} {mc ms : Nat}
/-- a return out of a method that may throw -/
theorem g_xret {M0 : Wm} (k : gW p l e R s m args below meth c D A nL cells slots (MQ below Qc args s mc ms A) P pc lv st M) : gW p l e R s m args below meth c D A nL cells slots (vx_MQ below Qc (qX D A M0 px) args s mc ms A) P pc lv st M := fun H locs ls hP hW hS hl => vx_ret (k H locs ls hP hW hS hl)
theorem g_throw (C : cX p m meth c cc nL s args own D tys A) (hl0 : l.stackTraces = false) {cls text : String} {ik is ic : Nat} (hcls : Bundle.fit cls = true) (hk : Cond.classLink own ik cls ∈ xAll) (hini : Cond.initialized cls ∈ xAll) (hstr : (own, is, text) ∈ xStr) (h1 : ∀ w ∈ (vx_atS own ic cls xNm).filter goodWord, w ∈ xAll) (h2 : ∀ w ∈ (vx_atS own ic cls xNm).filter (fun w => !goodWord w), w ∈ xNw ∧ w.onTables = true)
    (hgood : ∀ w ∈ Cond.classLink own ik cls :: Cond.initialized cls :: vx_atS own ic cls xNm, vx_ot w = true) (hex : ∀ x ∈ c.exceptionTable.toList, False)
    (d0 : decode cc pc = .ok (.new ik, 3)) (d3 : decode cc (pc + 3) = .ok (.dup, 1)) (d4 : decode cc (pc + 4) = .ok (.ldc is, 2)) (d6 : decode cc (pc + 6) = .ok (.invokespecial ic, 3)) (d9 : decode cc (pc + 9) = .ok (.athrow, 1))
    (hR : 5 < R.frames ∧ (st.map fun v => v.category).sum + 82 ≤ R.locals ∧ cells + 1 ≤ R.cells ∧ slots + 6 ≤ R.slots) (hc : cells + 1 ≤ mc) (hs : slots + 6 ≤ ms) (hpx : px cls) : gW p l e R s m args below meth c D A nL cells slots (vx_MQ below Qc (qX D A M px) args s mc ms A) P pc lv st M := by
  have hts := C.1.2.2.2.2
  intro H locs ls hP hW hS hls
  obtain ⟨sa, hsa⟩ := C.2.2.2.2.2.1 _ hstr
  refine vx_throwS (names := xNm) C.1.1 C.1.2.1 hl0 C.1.2.2.2.1 hcls (by decide +kernel) (hts _ hk) (hts _ hini) hsa (hat_of C h1 h2) hgood C.2.2.2.2.2.2.1 C.2.2.2.2.2.2.2 hS (by rw [C.1.2.2.1]; exact hls.1) d0 d3 d4 d6 d9 (fun x hx => (hex x hx).elim) hR.1 hR.2.1 hR.2.2.1 hR.2.2.2 C.2.2.2.2.1 (fun t ht hz hq => ?_) hS.2.2 hc hs
  refine ⟨(), trivial, ⟨hpx, fun q x hx => ⟨(hW q x hx).1.kept (hq q (hW q x hx).1.lt), (hW q x hx).2⟩⟩, Nat.le_trans hS.1 hz, fun q h1 h2 => ?_⟩
  rw [hq q (Nat.lt_of_lt_of_le h1 hS.1)]
  exact hS.2.1 q h1 h2
theorem g_throwW (C : cX p m meth c cc nL s args own D tys A) (hl0 : l.stackTraces = false) {cls text : String} {ik is ic : Nat} (hcls : Bundle.fit cls = true) (hk : Cond.classLink own ik cls ∈ xAll) (hini : Cond.initialized cls ∈ xAll) (hstr : (own, is, text) ∈ xStr) (h1 : ∀ w ∈ (vx_atS own ic cls xNm).filter goodWord, w ∈ xAll) (h2 : ∀ w ∈ (vx_atS own ic cls xNm).filter (fun w => !goodWord w), w ∈ xNw ∧ w.onTables = true)
    (hgood : ∀ w ∈ Cond.classLink own ik cls :: Cond.initialized cls :: vx_atS own ic cls xNm, vx_ot w = true) (hex : ∀ x ∈ c.exceptionTable.toList, False)
    (d0 : decode cc pc = .ok (.new ik, 3)) (d3 : decode cc (pc + 3) = .ok (.dup, 1)) (d4 : decode cc (pc + 4) = .ok (.ldc_w is, 3)) (d6 : decode cc (pc + 7) = .ok (.invokespecial ic, 3)) (d9 : decode cc (pc + 10) = .ok (.athrow, 1))
    (hR : 5 < R.frames ∧ (st.map fun v => v.category).sum + 82 ≤ R.locals ∧ cells + 1 ≤ R.cells ∧ slots + 6 ≤ R.slots) (hc : cells + 1 ≤ mc) (hs : slots + 6 ≤ ms) (hpx : px cls) : gW p l e R s m args below meth c D A nL cells slots (vx_MQ below Qc (qX D A M px) args s mc ms A) P pc lv st M := by
  have hts := C.1.2.2.2.2
  intro H locs ls hP hW hS hls
  obtain ⟨sa, hsa⟩ := C.2.2.2.2.2.1 _ hstr
  refine vx_throwSW (names := xNm) C.1.1 C.1.2.1 hl0 C.1.2.2.2.1 hcls (by decide +kernel) (hts _ hk) (hts _ hini) hsa (hat_of C h1 h2) hgood C.2.2.2.2.2.2.1 C.2.2.2.2.2.2.2 hS (by rw [C.1.2.2.1]; exact hls.1) d0 d3 d4 d6 d9 (fun x hx => (hex x hx).elim) hR.1 hR.2.1 hR.2.2.1 hR.2.2.2 C.2.2.2.2.1 (fun t ht hz hq => ?_) hS.2.2 hc hs
  refine ⟨(), trivial, ⟨hpx, fun q x hx => ⟨(hW q x hx).1.kept (hq q (hW q x hx).1.lt), (hW q x hx).2⟩⟩, Nat.le_trans hS.1 hz, fun q h1 h2 => ?_⟩
  rw [hq q (Nat.lt_of_lt_of_le h1 hS.1)]
  exact hS.2.1 q h1 h2
end XY
theorem at_IA1 : ∀ w ∈ (vx_atS R_Ct 80 xIA xNm).filter goodWord, w ∈ xAll := by decide +kernel
theorem at_IA2 : ∀ w ∈ (vx_atS R_Ct 80 xIA xNm).filter (fun w => !goodWord w), w ∈ xNw ∧ w.onTables = true := by decide +kernel
theorem at_IA3 : ∀ w ∈ Cond.classLink R_Ct 76 xIA :: Cond.initialized xIA :: vx_atS R_Ct 80 xIA xNm, vx_ot w = true := by decide +kernel
theorem at_IS1 : ∀ w ∈ (vx_atS R_Ct 90 xIS xNm).filter goodWord, w ∈ xAll := by decide +kernel
theorem at_IS2 : ∀ w ∈ (vx_atS R_Ct 90 xIS xNm).filter (fun w => !goodWord w), w ∈ xNw ∧ w.onTables = true := by decide +kernel
theorem at_IS3 : ∀ w ∈ Cond.classLink R_Ct 86 xIS :: Cond.initialized xIS :: vx_atS R_Ct 90 xIS xNm, vx_ot w = true := by decide +kernel
