/-! CONTRACTS OVER WORLDS, entry and ends of a method, calls. -/
def cT (D : va_G) (tys : xK) (A : Nat → Prop) (M : Wm) (U : State) : Prop := wd_ok D xCl A M U.heap ∧ va_K D xCl tys U ∧ (∀ w ∈ xNw, va_Nw w U) ∧ (∀ q : Nat, U.heap.size ≤ q → A q) ∧ sT A U
abbrev qI (D : va_G) (A : Nat → Prop) (post : Int → Wm → Prop) : Array Value → State → Outcome → State → Prop := va_Qi (fun r M' => ∃ z : Int, r = iI z ∧ post z M') (fun M' t => wd_ok D xCl A M' t.heap) A
abbrev qV (D : va_G) (A : Nat → Prop) (post : Wm → Prop) : Array Value → State → Outcome → State → Prop := va_Qv post (fun M' t => wd_ok D xCl A M' t.heap) A
abbrev qR (D : va_G) (A : Nat → Prop) (post : Nat → Wm → Prop) : Array Value → State → Outcome → State → Prop := va_Qr (fun _ : Wm => True) (fun M' a t => post a M' ∧ wd_ok D xCl A M' t.heap) A
/-- an answer, and nothing changed -/
abbrev qP (post : Int → Prop) : Array Value → State → Outcome → State → Prop := fun _ st oc t => ∃ z : Int, oc = .returned (some (.int (iI z))) ∧ post z ∧ t.heap = st.heap
abbrev qPR (post : Nat → Prop) : Array Value → State → Outcome → State → Prop := fun _ st oc t => ∃ a : Nat, oc = .returned (some (.ref a)) ∧ post a ∧ t.heap = st.heap
abbrev wsY (y : MethodName) (cc : ByteArray) (maxL : Nat) (ret : Option FieldType) : List Cond := Cond.code y cc maxL ret :: xAll
/-- a contract: y, on the arguments av and the world M -/
abbrev pT (l : Launch) (y : MethodName) (cc : ByteArray) (maxL : Nat) (ret : Option FieldType) (rm : Room) (D : va_G) (tys : xK) (A : Nat → Prop) (av : List Value) (M : Wm) (Qc : Array Value → State → Outcome → State → Prop) : Prop := Met l y (wsY y cc maxL ret) rm (va_Pc av (cT D tys A M)) Qc 0 0 (fun _ => False)
abbrev mT (l : Launch) (y : MethodName) (cc : ByteArray) (maxL : Nat) (ret : Option FieldType) (rm : Room) (D : va_G) (tys : xK) (A : Nat → Prop) (av : List Value) (M : Wm) (Qc : Array Value → State → Outcome → State → Prop) (mc ms : Nat) : Prop := Met l y (wsY y cc maxL ret) rm (va_Pc av (cT D tys A M)) Qc mc ms A
theorem met_of {own : String} {free : Addr → Prop} {l : Launch} {y : MethodName} {cc : ByteArray} {maxL : Nat} {ret : Option FieldType} {rm : Room} {D : va_G} {tys : xK} {A : Nat → Prop} {av : List Value} {lv : List (Nat × Value)} {M : Wm} {Qc : Array Value → State → Outcome → State → Prop} {mc ms : Nat}
    (ho : y.cls = own) (hy : plainName own = true) (hlen : (lg_sl av).length ≤ maxL) (hlv : lv_args 0 av = lv)
    (body : ∀ (p : Program) (e : Env) (s : State) (m : MethodId) (below : List Frame) (meth : Method) (c : Code), cX p m meth c cc maxL s av.toArray own D tys A → meth.sig.returnType = ret → meth.name = y.name → gW p l e rm s m av.toArray below meth c D A maxL 0 0 (MQ below Qc av.toArray s mc ms free) (wN s) 0 lv [] M) : Met l y (wsY y cc maxL ret) rm (va_Pc av (cT D tys A M)) Qc mc ms free := by
  subst hlv
  subst ho
  refine Met.ofW (cc := cc) (maxL := maxL) (ret := ret) hy rfl ?_
  intro p e s m args below meth c s₁ B hml hv
  obtain ⟨rfl, hW, hK, hN, hA, hZ⟩ := hv
  have hts := atoms_spec (ws := wsY y cc maxL ret) B.pre
  have hown : s.vm.findClass y.cls = some m.cls := findClass_of_methodNamed B.named
  have hl := lv_entry av (n := maxL) hlen
  rw [lg_entry_eq]
  exact body p e s m below meth c ⟨⟨B.exec, B.bytes, hml, hown, fun w h => hts w (List.mem_cons_of_mem _ h)⟩, hK, hN, hA, B.notSynchronized, hZ⟩ B.returns (name_of_methodNamed B.named B.method).1 s.heap [] _ ⟨rfl, rfl⟩ hW va_S.rf hl
section XE
variable {p : Program} {l : Launch} {e : Env} {R : Room} {s : State} {m : MethodId} {args : Array Value} {below : List Frame} {meth : Method} {c : Code} {cells slots : Nat} {Q : State → Prop} {P : Heap → List Loc → Prop}
variable {cc : ByteArray} {pc nL : Nat} {own : String} {D : va_G} {A : Nat → Prop} {tys : xK} {lv lv' : List (Nat × Value)} {st : List Value} {M : Wm}
theorem g_iret (C : cX p m meth c cc nL s args own D tys A) {post : Int → Wm → Prop} {z : Int} (hr : meth.sig.returnType = some .int) (hd : decode cc pc = .ok (.ireturn, 1)) (hp : post z M) : gW p l e R s m args below meth c D A nL cells slots (MQ below (qI D A post) args s cells slots A) P pc lv [.int (iI z)] M :=
  fun _ _ _ _ hW hS _ => W.iret C.1.1 C.1.2.1 hr (fun t ht _ => ⟨⟨iI z, M, rfl, ⟨z, rfl, hp⟩, by show wd_ok D xCl A M t.heap; rw [ht]; exact hW⟩, hS.F ht⟩) hS.2.2 hd C.2.2.2.2.1
theorem g_zret (C : cX p m meth c cc nL s args own D tys A) {post : Int → Wm → Prop} {z : Int} (hr : meth.sig.returnType = some .boolean) (hz : z = 0 ∨ z = 1) (hd : decode cc pc = .ok (.ireturn, 1)) (hp : post z M) : gW p l e R s m args below meth c D A nL cells slots (MQ below (qI D A post) args s cells slots A) P pc lv [.int (iI z)] M :=
  fun _ _ _ _ hW hS _ => W.zret C.1.1 C.1.2.1 hr (by rcases hz with rfl | rfl <;> rfl) (fun t ht _ => ⟨⟨iI z, M, rfl, ⟨z, rfl, hp⟩, by show wd_ok D xCl A M t.heap; rw [ht]; exact hW⟩, hS.F ht⟩) hS.2.2 hd C.2.2.2.2.1
theorem g_vret (C : cX p m meth c cc nL s args own D tys A) {post : Wm → Prop} (hr : meth.sig.returnType = none) (hd : decode cc pc = .ok (.return_, 1)) (hp : post M) : gW p l e R s m args below meth c D A nL cells slots (MQ below (qV D A post) args s cells slots A) P pc lv [] M :=
  fun _ _ _ _ hW hS _ => W.vret C.1.1 C.1.2.1 hr (fun t ht _ => ⟨⟨M, rfl, hp, by show wd_ok D xCl A M t.heap; rw [ht]; exact hW⟩, hS.F ht⟩) hS.2.2 hd C.2.2.2.2.1
theorem g_aret (C : cX p m meth c cc nL s args own D tys A) {post : Nat → Wm → Prop} {a : Nat} {CN : String} (hr : meth.sig.returnType = some (.object CN)) (hd : decode cc pc = .ok (.areturn, 1)) (hp : post a M) : gW p l e R s m args below meth c D A nL cells slots (MQ below (qR D A post) args s cells slots A) P pc lv [.ref a] M :=
  fun _ _ _ _ hW hS _ => W.aret C.1.1 C.1.2.1 hr (Or.inl ⟨CN, rfl⟩) (Or.inr ⟨a, rfl⟩) (fun t ht _ => ⟨⟨M, a, rfl, trivial, hp, by show wd_ok D xCl A M t.heap; rw [ht]; exact hW⟩, hS.F ht⟩) hS.2.2 hd C.2.2.2.2.1
theorem g_iretP (C : cX p m meth c cc nL s args own D tys A) {post : Int → Prop} {z : Int} (hr : meth.sig.returnType = some .int) (hd : decode cc pc = .ok (.ireturn, 1)) (hp : post z) : gW p l e R s m args below meth c D A nL cells slots (MQ below (qP post) args s cells slots (fun _ => False)) (wN s) pc lv [.int (iI z)] M :=
  fun _ locs _ hN _ _ _ => W.iret C.1.1 C.1.2.1 hr (fun t ht _ => ⟨z, rfl, hp, by rw [ht]; exact hN.1⟩) (fun q hq => by rw [hN.2] at hq; cases hq) hd C.2.2.2.2.1
theorem g_zretP (C : cX p m meth c cc nL s args own D tys A) {post : Int → Prop} {z : Int} (hr : meth.sig.returnType = some .boolean) (hz : z = 0 ∨ z = 1) (hd : decode cc pc = .ok (.ireturn, 1)) (hp : post z) : gW p l e R s m args below meth c D A nL cells slots (MQ below (qP post) args s cells slots (fun _ => False)) (wN s) pc lv [.int (iI z)] M :=
  fun _ locs _ hN _ _ _ => W.zret C.1.1 C.1.2.1 hr (by rcases hz with rfl | rfl <;> rfl) (fun t ht _ => ⟨z, rfl, hp, by rw [ht]; exact hN.1⟩) (fun q hq => by rw [hN.2] at hq; cases hq) hd C.2.2.2.2.1
theorem g_aretP (C : cX p m meth c cc nL s args own D tys A) {post : Nat → Prop} {a : Nat} {CN : String} (hr : meth.sig.returnType = some (.object CN)) (hd : decode cc pc = .ok (.areturn, 1)) (hp : post a) : gW p l e R s m args below meth c D A nL cells slots (MQ below (qPR post) args s cells slots (fun _ => False)) (wN s) pc lv [.ref a] M :=
  fun _ locs _ hN _ _ _ => W.aret C.1.1 C.1.2.1 hr (Or.inl ⟨CN, rfl⟩) (Or.inr ⟨a, rfl⟩) (fun t ht _ => ⟨a, rfl, hp, by rw [ht]; exact hN.1⟩) (fun q hq => by rw [hN.2] at hq; cases hq) hd C.2.2.2.2.1
end XE
/-- a call's words: link of own or of a nest mate, the callee's code among the words of all -/
def xC (own : String) (index : Nat) (y : MethodName) (cc : ByteArray) (maxL : Nat) (ret : Option FieldType) (n : Nat) : Prop :=
  Cond.code y cc maxL ret ∈ xAll ∧ Cond.initialized y.cls ∈ xAll ∧ (y.cls ≠ "java/lang/invoke/MethodHandle" ∧ y.cls ≠ "java/lang/invoke/VarHandle" ∧ (parseMethodDescriptor y.desc).map (fun d => d.parameters.length) = some n) ∧ (Cond.methodLink own index y ∈ xAll ∨ ∃ host, Cond.methodLinkNest own index y host ∈ xNw)
def xCV (own : String) (index ci : Nat) (y : MethodName) (cc : ByteArray) (maxL : Nat) (ret : Option FieldType) (n : Nat) : Prop := xC own index y cc maxL ret n ∧ Cond.instanceMethod y ∈ xAll ∧ Cond.selects y.cls y y ∈ xAll ∧ ∃ (T : u_T) (N : Nat), xCl[ci]? = some (y.cls, T, N)
def xCS (own : String) (index : Nat) (y : MethodName) (cc : ByteArray) (maxL : Nat) (ret : Option FieldType) (n : Nat) : Prop := xC own index y cc maxL ret n ∧ Cond.static y ∈ xAll
def xCI (own : String) (index : Nat) (y : MethodName) (cc : ByteArray) (maxL : Nat) (n : Nat) : Prop := xC own index y cc maxL none n ∧ y.name = "<init>" ∧ Cond.instanceMethod y ∈ xAll
theorem good_wsY {y : MethodName} {cc : ByteArray} {maxL : Nat} {ret : Option FieldType} (hc : Cond.code y cc maxL ret ∈ xAll) : GoodIn xAll (wsY y cc maxL ret) := by
  intro w hw
  rcases List.mem_cons.mp hw with rfl | hw
  · exact ⟨hc, Or.inl rfl⟩
  · exact ⟨hw, xAll_good w hw⟩
theorem cT_blind {D : va_G} {tys : xK} {A : Nat → Prop} {M : Wm} {av : List Value} : FrameBlind (va_Pc av (cT D tys A M)) := by
  intro a U g mk h
  obtain ⟨h0, h1, h2, h3, h4, h5⟩ := h
  exact ⟨h0, h1, va_K.moved (u := U) (U := U.calling g mk a) (Vm.Alike.refl U.vm) h2, fun w hw => xNw_same w hw (show U.vm = (U.calling g mk a).vm from rfl) (h3 w hw), h4, sT_same (u := U) rfl rfl h5⟩
section XQ
variable {p : Program} {l : Launch} {e : Env} {R : Room} {s : State} {m : MethodId} {args : Array Value} {below : List Frame} {meth : Method} {c : Code} {cells slots : Nat} {Q : State → Prop} {P : Heap → List Loc → Prop}
variable {cc : ByteArray} {pc nL : Nat} {own : String} {D : va_G} {A : Nat → Prop} {tys : xK} {lv lv' : List (Nat × Value)} {st rest : List Value} {M : Wm} {H : Heap}
theorem cT_at {locs : List Loc} (C : cX p m meth c cc nL s args own D tys A) (hW : wd_ok D xCl A M H) (hz : va_S A s.heap H locs) : ∀ U : State, U.heap = H → s.WarmedH U.vm → cT D tys A M U := by
  intro U hU hWm
  exact ⟨by rw [hU]; exact hW, va_K.moved hWm.alike C.2.1, fun w hw => xNw_warm w hw hWm (C.2.2.1 w hw), fun q hq => C.2.2.2.1 q (by rw [hU] at hq; have := hz.1; omega), sT_at C.2.2.2.2.2 hz hU hWm⟩
/-- what a call must find: the callee runs from here, by its contract -/
def gR (p : Program) (l : Launch) (e : Env) (R : Room) (s : State) (m : MethodId) (args : Array Value) (below : List Frame) (meth : Method) (c : Code) (D : va_G) (A : Nat → Prop) (nL cells slots mc ms : Nat) (pc : Nat) (st rest : List Value) (M : Wm) (Qa : State → Outcome → State → Prop) (free : Addr → Prop) : Prop :=
  ∀ (H : Heap) (locs : List Loc) (ls : Array Slot), wd_ok D xCl A M H → va_S A s.heap H locs → ls.size = nL → va_Run p l e R s m args below meth c H locs cells slots mc ms (F0 m pc ls st) rest Qa free
theorem run_V (C : cX p m meth c cc nL s args own D tys A) {index ci : Nat} {y : MethodName} {bytes : ByteArray} {maxL n b mc ms : Nat} {ret : Option FieldType} {rm : Room} {fs : List Value} {Qc : Array Value → State → Outcome → State → Prop} {free : Addr → Prop} (As : List Value) (hx : xCV own index ci y bytes maxL ret n)
    (hM : Met l y (wsY y bytes maxL ret) rm (va_Pc (.ref b :: As) (cT D tys A M)) Qc mc ms free) (he : M b = some (.inr (ci, fs))) (hrm : rm.cells = mc ∧ rm.slots = ms ∧ rm.frames + 1 ≤ R.frames ∧ 8 + (maxL + 11) + rm.locals ≤ R.locals) (hst : st = As.reverse ++ .ref b :: rest) (hn : As.length = n) (hcat : (rest.map fun v => v.category).sum ≤ 8)
    (hd : decode cc pc = .ok (.invokevirtual index, 3)) (hf : cells + mc ≤ R.cells ∧ slots + ms ≤ R.slots) : gR p l e R s m args below meth c D A nL cells slots mc ms pc st rest M (Qc (Value.ref b :: As).toArray) free := by
  obtain ⟨⟨hc, hini, hq, hl⟩, hinst, hsel, T, N, hcl⟩ := hx
  have hts := C.1.2.2.2.2
  intro H locs ls hW hz hls
  have hrec := va_recv C.2.1 (wd_one hW he) hcl (q0 := 0) rfl
  have hp : PreV s H y.cls b (va_Pc (.ref b :: As) (cT D tys A M)) As := ⟨cT_blind, hrec, fun U hU hWm => ⟨rfl, cT_at C hW hz U hU hWm⟩⟩
  rcases hl with hl | ⟨host, hl⟩
  · exact va_runV C.1 hM ⟨callB_of n hts (good_wsY hc) rfl hrm.1 hrm.2.1 (hts _ hini) (hts _ hl) hq ⟨hrm.2.2.1, hrm.2.2.2⟩, hts _ hinst, hts _ hsel⟩ hp rfl hn hls hst (lv_room hcat) hd hf
  · exact va_runVN C.1 hM ⟨va_cnB n hts (good_wsY hc) rfl hrm.1 hrm.2.1 (C.2.2.1 _ hl) (hts _ hini) hq ⟨hrm.2.2.1, hrm.2.2.2⟩, hts _ hinst, hts _ hsel⟩ hp rfl hn hls hst (lv_room hcat) hd hf
theorem run_S (C : cX p m meth c cc nL s args own D tys A) {index : Nat} {y : MethodName} {bytes : ByteArray} {maxL n mc ms : Nat} {ret : Option FieldType} {rm : Room} {Qc : Array Value → State → Outcome → State → Prop} {free : Addr → Prop} (As : List Value) (hx : xCS own index y bytes maxL ret n)
    (hM : Met l y (wsY y bytes maxL ret) rm (va_Pc As (cT D tys A M)) Qc mc ms free) (hrm : rm.cells = mc ∧ rm.slots = ms ∧ rm.frames + 1 ≤ R.frames ∧ 8 + (maxL + 11) + rm.locals ≤ R.locals) (hst : st = As.reverse ++ rest) (hn : As.length = n) (hcat : (rest.map fun v => v.category).sum ≤ 8)
    (hd : decode cc pc = .ok (.invokestatic index, 3)) (hf : cells + mc ≤ R.cells ∧ slots + ms ≤ R.slots) : gR p l e R s m args below meth c D A nL cells slots mc ms pc st rest M (Qc As.toArray) free := by
  obtain ⟨⟨hc, hini, hq, hl⟩, hstat⟩ := hx
  have hts := C.1.2.2.2.2
  intro H locs ls hW hz hls
  have hp : PreS s H (va_Pc As (cT D tys A M)) As := ⟨cT_blind, fun U hU hWm => ⟨rfl, cT_at C hW hz U hU hWm⟩⟩
  rcases hl with hl | ⟨host, hl⟩
  · exact va_runS C.1 hM ⟨callB_of n hts (good_wsY hc) rfl hrm.1 hrm.2.1 (hts _ hini) (hts _ hl) hq ⟨hrm.2.2.1, hrm.2.2.2⟩, hts _ hstat⟩ hp rfl hn hls hst (lv_room hcat) hd hf
  · exact va_runSN C.1 hM ⟨va_cnB n hts (good_wsY hc) rfl hrm.1 hrm.2.1 (C.2.2.1 _ hl) (hts _ hini) hq ⟨hrm.2.2.1, hrm.2.2.2⟩, hts _ hstat, trivial⟩ hp rfl hn hls hst (lv_room hcat) hd hf
theorem run_I (C : cX p m meth c cc nL s args own D tys A) {index : Nat} {y : MethodName} {bytes : ByteArray} {maxL n b mc ms : Nat} {rm : Room} {Qc : Array Value → State → Outcome → State → Prop} {free : Addr → Prop} (As : List Value) (hx : xCI own index y bytes maxL n)
    (hM : Met l y (wsY y bytes maxL none) rm (va_Pc (.ref b :: As) (cT D tys A M)) Qc mc ms free) (hrm : rm.cells = mc ∧ rm.slots = ms ∧ rm.frames + 1 ≤ R.frames ∧ 8 + (maxL + 11) + rm.locals ≤ R.locals) (hst : st = As.reverse ++ .ref b :: rest) (hn : As.length = n) (hcat : (rest.map fun v => v.category).sum ≤ 8)
    (hd : decode cc pc = .ok (.invokespecial index, 3)) (hf : cells + mc ≤ R.cells ∧ slots + ms ≤ R.slots) : gR p l e R s m args below meth c D A nL cells slots mc ms pc st rest M (Qc (Value.ref b :: As).toArray) free := by
  obtain ⟨⟨hc, hini, hq, hl⟩, hnm, hinst⟩ := hx
  have hts := C.1.2.2.2.2
  intro H locs ls hW hz hls
  have hp : PreS s H (va_Pc (.ref b :: As) (cT D tys A M)) (.ref b :: As) := ⟨cT_blind, fun U hU hWm => ⟨rfl, cT_at C hW hz U hU hWm⟩⟩
  rcases hl with hl | ⟨host, hl⟩
  · exact va_runI C.1 hM ⟨callB_of n hts (good_wsY hc) rfl hrm.1 hrm.2.1 (hts _ hini) (hts _ hl) hq ⟨hrm.2.2.1, hrm.2.2.2⟩, hnm, hts _ hinst⟩ hp rfl hn hls hst (lv_room hcat) hd hf
  · exact va_runIN C.1 hM ⟨va_cnB n hts (good_wsY hc) rfl hrm.1 hrm.2.1 (C.2.2.1 _ hl) (hts _ hini) hq ⟨hrm.2.2.1, hrm.2.2.2⟩, hnm, hts _ hinst⟩ hp rfl hn hls hst (lv_room hcat) hd hf
theorem g_calli (C : cX p m meth c cc nL s args own D tys A) {mc ms : Nat} {a : Array Value} {post : Int → Wm → Prop} (hr : gR p l e R s m args below meth c D A nL cells slots mc ms pc st rest M (qI D A post a) A) (k : ∀ (z : Int) (M' : Wm), post z M' → gW p l e R s m args below meth c D A nL (cells + mc) (slots + ms) Q wX (pc + 3) lv (.int (iI z) :: rest) M') : gW p l e R s m args below meth c D A nL cells slots Q P pc lv st M := by
  intro H locs ls _ hW hS hls
  refine va_calli (hr H locs ls hW hS hls.1) hS (fun q _ h => h) (fun q h => h) (fun r u t H1 locs1 ht _ hp hB _ _ hS1 => ?_)
  obtain ⟨z, rfl, hp⟩ := hp
  exact k z u hp H1 locs1 ls trivial (by rw [← ht]; exact hB) hS1 hls
theorem g_callv (C : cX p m meth c cc nL s args own D tys A) {mc ms : Nat} {a : Array Value} {post : Wm → Prop} (hr : gR p l e R s m args below meth c D A nL cells slots mc ms pc st rest M (qV D A post a) A) (k : ∀ (M' : Wm), post M' → gW p l e R s m args below meth c D A nL (cells + mc) (slots + ms) Q wX (pc + 3) lv rest M') : gW p l e R s m args below meth c D A nL cells slots Q P pc lv st M := by
  intro H locs ls _ hW hS hls
  refine va_callv (hr H locs ls hW hS hls.1) hS (fun q _ h => h) (fun q h => h) (fun u t H1 locs1 ht _ hp hB _ _ hS1 => ?_)
  exact k u hp H1 locs1 ls trivial (by rw [← ht]; exact hB) hS1 hls
theorem g_callr (C : cX p m meth c cc nL s args own D tys A) {mc ms : Nat} {a : Array Value} {post : Nat → Wm → Prop} (hr : gR p l e R s m args below meth c D A nL cells slots mc ms pc st rest M (qR D A post a) A) (k : ∀ (b : Nat) (M' : Wm), post b M' → gW p l e R s m args below meth c D A nL (cells + mc) (slots + ms) Q wX (pc + 3) lv (.ref b :: rest) M') : gW p l e R s m args below meth c D A nL cells slots Q P pc lv st M := by
  intro H locs ls _ hW hS hls
  refine va_callr (hr H locs ls hW hS hls.1) hS (fun q _ h => h) (fun q h => h) (fun u b t H1 locs1 ht _ _ hB _ _ hS1 => ?_)
  exact k b u hB.1 H1 locs1 ls trivial (by rw [← ht]; exact hB.2) hS1 hls
theorem g_calliP (C : cX p m meth c cc nL s args own D tys A) {a : Array Value} {post : Int → Prop} (hr : gR p l e R s m args below meth c D A nL cells slots 0 0 pc st rest M (qP post a) (fun _ => False)) (k : ∀ (z : Int), post z → gW p l e R s m args below meth c D A nL cells slots Q P (pc + 3) lv (.int (iI z) :: rest) M) : gW p l e R s m args below meth c D A nL cells slots Q P pc lv st M := by
  intro H locs ls hP hW hS hls T hT X
  obtain ⟨v, st₀, t, T', L, h0, X', hL, e1, e2, ⟨z, hv, hp, hh⟩, st⟩ := hr H locs ls hW hS hls.1 T hT X
  cases hv
  have hLn : L = [] := List.eq_nil_iff_forall_not_mem.mpr hL
  subst hLn
  have hT' : T'.heap = H := by rw [e1, hh, h0]
  rw [List.append_nil] at X'
  obtain ⟨t2, a1, b1⟩ := k z hp H locs ls hP hW hS hls T' hT' X'
  exact ⟨t2, st t2 a1, b1⟩
theorem g_callrP (C : cX p m meth c cc nL s args own D tys A) {a : Array Value} {post : Nat → Prop} (hr : gR p l e R s m args below meth c D A nL cells slots 0 0 pc st rest M (qPR post a) (fun _ => False)) (k : ∀ (b : Nat), post b → gW p l e R s m args below meth c D A nL cells slots Q P (pc + 3) lv (.ref b :: rest) M) : gW p l e R s m args below meth c D A nL cells slots Q P pc lv st M := by
  intro H locs ls hP hW hS hls T hT X
  obtain ⟨v, st₀, t, T', L, h0, X', hL, e1, e2, ⟨b, hv, hp, hh⟩, st⟩ := hr H locs ls hW hS hls.1 T hT X
  cases hv
  have hLn : L = [] := List.eq_nil_iff_forall_not_mem.mpr hL
  subst hLn
  have hT' : T'.heap = H := by rw [e1, hh, h0]
  rw [List.append_nil] at X'
  obtain ⟨t2, a1, b1⟩ := k b hp H locs ls hP hW hS hls T' hT' X'
  exact ⟨t2, st t2 a1, b1⟩
/-- Math.max, min, abs of ints -/
def xMath : Prop := Cond.initialized "java/lang/Math" ∈ xAll
theorem g_mmax (C : cX p m meth c cc nL s args own D tys A) {index : Nat} {a b : Int} (hx : Cond.methodLink own index Lib.Math.max.name ∈ xAll ∧ Cond.static Lib.Math.max.name ∈ xAll ∧ Cond.initialized "java/lang/Math" ∈ xAll ∧ Cond.code Lib.Math.max.name Lib.Math.max.code 2 (some .int) ∈ xAll) (hr : (-2147483648 ≤ a ∧ a < 2147483648) ∧ (-2147483648 ≤ b ∧ b < 2147483648)) (hR : 1 ≤ R.frames ∧ (st.map fun v => v.category).sum + 13 ≤ R.locals ∧ cells ≤ R.cells ∧ slots ≤ R.slots) (hd : decode cc pc = .ok (.invokestatic index, 3)) (k : gW p l e R s m args below meth c D A nL cells slots Q P (pc + 3) lv (.int (iI (if a < b then b else a)) :: st) M) : gW p l e R s m args below meth c D A nL cells slots Q P pc lv (.int (iI b) :: .int (iI a) :: st) M := by
  have hts := C.1.2.2.2.2
  intro H locs ls hP hW hS hl
  refine va_mmax C.1.1 C.1.2.1 (by rw [C.1.2.2.1, hl.1]) C.1.2.2.2.1 (hts _ hx.1) (hts _ hx.2.1) (hts _ hx.2.2.1) (hts _ hx.2.2.2) hR.1 hR.2.1 hR.2.2.1 hR.2.2.2 hd ?_
  have h := k H locs ls hP hW hS hl
  by_cases q : a < b
  · rw [if_pos ((iI_lt hr.1 hr.2).mpr q)]; rw [if_pos q] at h; exact h
  · rw [if_neg (fun z => q ((iI_lt hr.1 hr.2).mp z))]; rw [if_neg q] at h; exact h
theorem g_mmin (C : cX p m meth c cc nL s args own D tys A) {index : Nat} {a b : Int} (hx : Cond.methodLink own index Lib.Math.min.name ∈ xAll ∧ Cond.static Lib.Math.min.name ∈ xAll ∧ Cond.initialized "java/lang/Math" ∈ xAll ∧ Cond.code Lib.Math.min.name Lib.Math.min.code 2 (some .int) ∈ xAll) (hr : (-2147483648 ≤ a ∧ a < 2147483648) ∧ (-2147483648 ≤ b ∧ b < 2147483648)) (hR : 1 ≤ R.frames ∧ (st.map fun v => v.category).sum + 13 ≤ R.locals ∧ cells ≤ R.cells ∧ slots ≤ R.slots) (hd : decode cc pc = .ok (.invokestatic index, 3)) (k : gW p l e R s m args below meth c D A nL cells slots Q P (pc + 3) lv (.int (iI (if b < a then b else a)) :: st) M) : gW p l e R s m args below meth c D A nL cells slots Q P pc lv (.int (iI b) :: .int (iI a) :: st) M := by
  have hts := C.1.2.2.2.2
  intro H locs ls hP hW hS hl
  refine va_mmin C.1.1 C.1.2.1 (by rw [C.1.2.2.1, hl.1]) C.1.2.2.2.1 (hts _ hx.1) (hts _ hx.2.1) (hts _ hx.2.2.1) (hts _ hx.2.2.2) hR.1 hR.2.1 hR.2.2.1 hR.2.2.2 hd ?_
  have h := k H locs ls hP hW hS hl
  by_cases q : b < a
  · rw [if_pos ((iI_lt hr.2 hr.1).mpr q)]; rw [if_pos q] at h; exact h
  · rw [if_neg (fun z => q ((iI_lt hr.2 hr.1).mp z))]; rw [if_neg q] at h; exact h
theorem g_mabs (C : cX p m meth c cc nL s args own D tys A) {index : Nat} {a : Int} (hx : Cond.methodLink own index Lib.Math.abs.name ∈ xAll ∧ Cond.static Lib.Math.abs.name ∈ xAll ∧ Cond.initialized "java/lang/Math" ∈ xAll ∧ Cond.code Lib.Math.abs.name Lib.Math.abs.code 1 (some .int) ∈ xAll) (hr : -2147483648 ≤ a ∧ a < 2147483648) (hR : 1 ≤ R.frames ∧ (st.map fun v => v.category).sum + 13 ≤ R.locals ∧ cells ≤ R.cells ∧ slots ≤ R.slots) (hd : decode cc pc = .ok (.invokestatic index, 3)) (k : gW p l e R s m args below meth c D A nL cells slots Q P (pc + 3) lv (.int (iI (if 0 ≤ a then a else -a)) :: st) M) : gW p l e R s m args below meth c D A nL cells slots Q P pc lv (.int (iI a) :: st) M := by
  have hts := C.1.2.2.2.2
  have h0 : -2147483648 ≤ (0 : Int) ∧ (0 : Int) < 2147483648 := by omega
  intro H locs ls hP hW hS hl
  refine va_mabs C.1.1 C.1.2.1 (by rw [C.1.2.2.1, hl.1]) C.1.2.2.2.1 (hts _ hx.1) (hts _ hx.2.1) (hts _ hx.2.2.1) (hts _ hx.2.2.2) hR.1 hR.2.1 hR.2.2.1 hR.2.2.2 hd ?_
  have h := k H locs ls hP hW hS hl
  by_cases q : 0 ≤ a
  · rw [if_pos (show (0 : Int32) ≤ iI a from (iI_le h0 hr).mpr q)]; rw [if_pos q] at h; exact h
  · rw [if_neg (show ¬ (0 : Int32) ≤ iI a from fun z => q ((iI_le h0 hr).mp z)), show (0 : Int32) - iI a = iI (-a) from by rw [← iI_0, iI_sub]; congr 1; omega]; rw [if_neg q] at h; exact h
end XQ
