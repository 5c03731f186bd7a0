/-! THE LAW'S OWN ROWS: the script, the long that a wrapper fills, calls that may throw and their handlers. -/
def nz (z : Int) : Int := (iI z).toInt
theorem nz_rng (z : Int) : -2147483648 ≤ nz z ∧ nz z < 2147483648 := iI_rng _
theorem nz_I (z : Int) : iI (nz z) = iI z := iI_of _
def oU (tys : xK) (ou : Nat) (f : Nat → Int64) : Wm := fun q => if q = ou then some (.inl (tc tys 1, 1, .inr (.inl f))) else none
theorem oU_s {tys : xK} {ou : Nat} {f : Nat → Int64} : oU tys ou f ou = some (.inl (tc tys 1, 1, .inr (.inl f))) := if_pos rfl
theorem oU_n {tys : xK} {ou q : Nat} {f : Nat → Int64} (h : q ≠ ou) : oU tys ou f q = none := if_neg h
theorem dj_oU {tys : xK} {ou : Nat} {f g : Nat → Int64} {M : Wm} (h : dj M (oU tys ou f)) : dj M (oU tys ou g) := by
  intro q
  by_cases e : q = ou
  · subst e
    rcases h q with h1 | h1
    · exact Or.inl h1
    · rw [oU_s] at h1; cases h1
  · exact Or.inr (oU_n e)
theorem updL_0 {f : Nat → Int64} {x : Int64} : vp_updL f 0 x 0 = x := if_pos rfl
theorem RC_ob {tys : xK} {M : Wm} {x : Nat} {s : AS} (h : RC tys M x s) : ∃ fs : List Value, M x = some (.inr (7, fs)) := by
  obtain ⟨np, nl, nt, ns, ho, pa, la, ta, rk, ea, sa, pn, ca, ga, ra, to, oa, gp, gl, gt, gr, ge, gc, so, L, T, c0, -, ⟨h1, -⟩, -⟩ := h
  exact ⟨_, h1⟩
theorem RM_ob {tys : xK} {M : Wm} {m : Nat} {s : AS} {th : Int} (h : RM tys M m s th) : ∃ fs : List Value, M m = some (.inr (8, fs)) := by
  obtain ⟨a, f, v7, v8, v9, ⟨h1, -⟩, -⟩ := h
  exact ⟨_, h1⟩
abbrev wsW (y : MethodName) (cc : ByteArray) (maxL : Nat) (ret : Option FieldType) (hh : List (Nat × Nat × Nat × Nat)) : List Cond := Cond.codeWith y cc maxL ret hh :: xAll
theorem good_wsW {y : MethodName} {cc : ByteArray} {maxL : Nat} {ret : Option FieldType} {hh : List (Nat × Nat × Nat × Nat)} (hc : Cond.codeWith y cc maxL ret hh ∈ xAll) : GoodIn xAll (wsW y cc maxL ret hh) := by
  intro w hw
  rcases List.mem_cons.mp hw with rfl | hw
  · exact ⟨hc, xAll_good _ hc⟩
  · exact ⟨hw, xAll_good w hw⟩
abbrev wT (l : Launch) (y : MethodName) (cc : ByteArray) (maxL : Nat) (ret : Option FieldType) (hh : List (Nat × Nat × Nat × Nat)) (rm : Room) (D : va_G) (tys : xK) (A : Nat → Prop) (av : List Value) (M : Wm) (Qc : Array Value → State → Outcome → State → Prop) (mc ms : Nat) : Prop := Met l y (wsW y cc maxL ret hh) rm (va_Pc av (fun U => cT D tys A M U ∧ cL U)) Qc mc ms A
theorem wet_of {own : String} {l : Launch} {y : MethodName} {cc : ByteArray} {maxL : Nat} {ret : Option FieldType} {hh : List (Nat × Nat × Nat × Nat)} {rm : Room} {D : va_G} {tys : xK} {A : Nat → Prop} {av : List Value} {lv : List (Nat × Value)} {M : Wm} {Qc : Array Value → State → Outcome → State → Prop} {mc ms : Nat}
    (ho : y.cls = own) (hy : plainName own = true) (hlen : (lg_sl av).length ≤ maxL) (hlv : lv_args 0 av = lv)
    (body : ∀ (p : Program) (e : Env) (s : State) (m : MethodId) (below : List Frame) (meth : Method) (c : Code), cX p m meth c cc maxL s av.toArray own D tys A → meth.sig.returnType = ret → c.exceptionTable.toList = tableOf hh → cL s → gW p l e rm s m av.toArray below meth c D A maxL 0 0 (MQ below Qc av.toArray s mc ms A) (wN s) 0 lv [] M) : wT l y cc maxL ret hh rm D tys A av M Qc mc ms := by
  subst hlv
  subst ho
  refine va_MetW (cc := cc) (maxL := maxL) (ret := ret) (hh := hh) hy rfl ?_
  intro p e s m args below meth c s₁ B hml hv
  obtain ⟨rfl, ⟨hW, hK, hN, hA, hZ⟩, hL⟩ := hv
  have hts := atoms_spec (ws := wsW y cc maxL ret hh) B.pre
  have hown : s.vm.findClass y.cls = some m.cls := findClass_of_methodNamed B.named
  have hl := lv_entry av (n := maxL) hlen
  rw [lg_entry_eq]
  exact body p e s m below meth c ⟨⟨B.exec, B.bytes, hml, hown, fun w h => hts w (List.mem_cons_of_mem _ h)⟩, hK, hN, hA, B.notSynchronized, hZ⟩ B.returns (vx_table (x := y) B (hts _ List.mem_cons_self)) hL s.heap [] _ ⟨rfl, rfl⟩ hW va_S.rf hl
/-- words of a static call of a method with handlers -/
def xCW (own : String) (index : Nat) (y : MethodName) (cc : ByteArray) (maxL : Nat) (ret : Option FieldType) (hh : List (Nat × Nat × Nat × Nat)) (n : Nat) : Prop :=
  Cond.codeWith y cc maxL ret hh ∈ xAll ∧ Cond.initialized y.cls ∈ xAll ∧ (y.cls ≠ "java/lang/invoke/MethodHandle" ∧ y.cls ≠ "java/lang/invoke/VarHandle" ∧ (parseMethodDescriptor y.desc).map (fun d => d.parameters.length) = some n) ∧ Cond.methodLink own index y ∈ xAll ∧ Cond.static y ∈ xAll
/-- the answer of a wrapper: what the call gave, in the long; or which exception it was -/
abbrev qW (tys : xK) (Mc : Wm) (ou : Nat) (ks : List (String × Int)) (post : Int → Wm → Prop) (px : String → Prop) : Int → Wm → Prop := fun k M' => ∃ (Mc' : Wm) (f' : Nat → Int64), M' = mj Mc' (oU tys ou f') ∧ dj Mc' (oU tys ou f') ∧ ((k = 0 ∧ ∃ z : Int, f' 0 = lI (nz z) ∧ post z Mc') ∨ (∃ E : String, (E, k) ∈ ks ∧ px E ∧ Mc' = Mc))
section LR
variable {p : Program} {l : Launch} {e : Env} {R : Room} {s : State} {m : MethodId} {args : Array Value} {below : List Frame} {meth : Method} {c : Code} {cells slots : Nat} {Qg : State → Prop} {Ph : Heap → List Loc → Prop}
variable {cc : ByteArray} {pc nL : Nat} {own : String} {D : va_G} {A : Nat → Prop} {tys : xK} {lv lv' : List (Nat × Value)} {st rest : List Value} {M P Q : Wm} {H : Heap}
theorem g_sld (C : cX p m meth c cc nL s args own D tys A) {b L : Nat} {xs : Nat → Int32} (hX : va_X b L xs s s.heap) (hbl : b < s.heap.size) (hbA : ¬ A b) {z : Int} (hz : 0 ≤ z ∧ z < L) (hL : L < 2147483648) (hd : decode cc pc = .ok (.iaload, 1)) (k : gW p l e R s m args below meth c D A nL cells slots Qg Ph (pc + 1) lv (.int (iI (xs z.toNat).toInt) :: st) M) : gW p l e R s m args below meth c D A nL cells slots Qg Ph pc lv (.int (iI z) :: .ref b :: st) M := by
  intro H locs ls hP hW hS hls
  refine va_sld C.1.1 C.1.2.1 hX hbl hbA hS (iI_in hz hL) hd ?_
  rw [iI_clamp (by omega)]
  have h := k H locs ls hP hW hS hls
  rw [iI_of] at h
  exact h
theorem g_slen (C : cX p m meth c cc nL s args own D tys A) {b L : Nat} {xs : Nat → Int32} (hX : va_X b L xs s s.heap) (hbl : b < s.heap.size) (hbA : ¬ A b) (hd : decode cc pc = .ok (.arraylength, 1)) (k : gW p l e R s m args below meth c D A nL cells slots Qg Ph (pc + 1) lv (.int (iI (L : Int)) :: st) M) : gW p l e R s m args below meth c D A nL cells slots Qg Ph pc lv (.ref b :: st) M := by
  intro H locs ls hP hW hS hls
  refine va_slen C.1.1 C.1.2.1 hX hbl hbA hS hd ?_
  have h := k H locs ls hP hW hS hls
  rw [iI_nat] at h
  exact h
theorem g_i2lN (C : cX p m meth c cc nL s args own D tys A) {z : Int} (hd : decode cc pc = .ok (.i2l, 1)) (k : gW p l e R s m args below meth c D A nL cells slots Qg Ph (pc + 1) lv (.long (lI (nz z)) :: st) M) : gW p l e R s m args below meth c D A nL cells slots Qg Ph pc lv (.int (iI z) :: st) M := by
  have h := g_i2l (z := nz z) C (nz_rng z) hd k
  rw [nz_I] at h
  exact h
theorem g_lastO (C : cX p m meth c cc nL s args own D tys A) (ht : tys[1]? = some (tc tys 1, .long)) {ou : Nat} {x : Int64} {f : Nat → Int64} {Mc : Wm} (hd : decode cc pc = .ok (.lastore, 1)) (k : gW p l e R s m args below meth c D A nL cells slots Qg wX (pc + 1) lv st (mj Mc (oU tys ou (vp_updL f 0 x)))) : gW p l e R s m args below meth c D A nL cells slots Qg Ph pc lv (.long x :: .int (iI 0) :: .ref ou :: st) (mj Mc (oU tys ou f)) := by
  intro H locs ls hP hW hS hls
  have he : mj Mc (oU tys ou f) ou = some (.inl (tc tys 1, 1, .inr (.inl f))) := mj_r oU_s
  obtain ⟨q0, hq0⟩ := wd_ls_at hW he
  refine va_last C.1.1 C.1.2.1 C.2.1 (wd_ls_P hW _) (wd_ls_D hW _) hS q0 1 hq0 ht (iI_in (by omega) (by omega)) hd (fun H1 locs1 h1 _ hS1 => ?_)
  have h2 := wd_set hW hq0 h1
  refine k H1 locs1 ls trivial (h2.less ?_) hS1 hls
  intro q y hy
  by_cases e : q = ou
  · subst e
    rw [wd_up_s]
    rw [mj_r oU_s] at hy
    rw [iI_clamp (by omega)]
    exact hy
  · rw [wd_up_n e]
    rw [mj_n (oU_n e)] at hy
    rw [mj_n (oU_n e)]
    exact hy
theorem g_laldO (C : cX p m meth c cc nL s args own D tys A) (ht : tys[1]? = some (tc tys 1, .long)) {ou : Nat} {f : Nat → Int64} (he : M ou = some (.inl (tc tys 1, 1, .inr (.inl f)))) (hd : decode cc pc = .ok (.laload, 1)) (k : gW p l e R s m args below meth c D A nL cells slots Qg Ph (pc + 1) lv (.long (f 0) :: st) M) : gW p l e R s m args below meth c D A nL cells slots Qg Ph pc lv (.int (iI 0) :: .ref ou :: st) M := by
  intro H locs ls hP hW hS hls
  refine va_lald C.1.1 C.1.2.1 C.2.1 (wd_one hW he) 0 1 rfl ht (iI_in (by omega) (by omega)) hd ?_
  rw [iI_clamp (by omega)]
  exact k H locs ls hP hW hS hls
theorem g_tblO (C : cX p m meth c cc nL s args own D tys A) {dflt lo hi : Int} {offs : Array Int} {len : Nat} {z : Int} (tgt : Nat) (hz : -2147483648 ≤ z ∧ z < 2147483648) (hd : decode cc pc = .ok (.tableswitch dflt lo hi offs, len)) (h : z < lo ∨ hi < z) (ht : (pc : Int) + dflt = (tgt : Int)) (k : gW p l e R s m args below meth c D A nL cells slots Qg Ph tgt lv st M) : gW p l e R s m args below meth c D A nL cells slots Qg Ph pc lv (.int (iI z) :: st) M := by
  intro H locs ls hP hW hS hls
  exact lv_tableOut C.1.1 C.1.2.1 hd (by rw [iI_toInt hz]; exact h) ht (k H locs ls hP hW hS hls)
theorem g_tblI (C : cX p m meth c cc nL s args own D tys A) {dflt lo hi : Int} {offs : Array Int} {len : Nat} {z : Int} (off : Int) (tgt : Nat) (hz : -2147483648 ≤ z ∧ z < 2147483648) (hd : decode cc pc = .ok (.tableswitch dflt lo hi offs, len)) (h1 : ¬ z < lo) (h2 : ¬ hi < z) (ho : offs[(z - lo).toNat]? = some off) (ht : (pc : Int) + off = (tgt : Int)) (k : gW p l e R s m args below meth c D A nL cells slots Qg Ph tgt lv st M) : gW p l e R s m args below meth c D A nL cells slots Qg Ph pc lv (.int (iI z) :: st) M := by
  intro H locs ls hP hW hS hls
  exact lv_tableIn C.1.1 C.1.2.1 hd (by rw [iI_toInt hz]; exact h1) (by rw [iI_toInt hz]; exact h2) (by rw [iI_toInt hz]; exact ho) ht (k H locs ls hP hW hS hls)
/-- the static call of a wrapper, the other world set aside -/
theorem run_SWF (C : cX p m meth c cc nL s args own D tys A) (hL : cL s) (hd : dj P Q) {index : Nat} {y : MethodName} {bytes : ByteArray} {maxL n mc ms : Nat} {ret : Option FieldType} {hh : List (Nat × Nat × Nat × Nat)} {rm : Room} {Qc : Array Value → State → Outcome → State → Prop} (As : List Value) (hx : xCW own index y bytes maxL ret hh n)
    (hM : wT l y bytes maxL ret hh rm D tys (Af A Q) As P Qc mc ms) (hrm : rm.cells = mc ∧ rm.slots = ms ∧ rm.frames + 1 ≤ R.frames ∧ 8 + (maxL + 11) + rm.locals ≤ R.locals) (hst : st = As.reverse ++ rest) (hn : As.length = n) (hcat : (rest.map fun v => v.category).sum ≤ 8)
    (hdg : decode cc pc = .ok (.invokestatic index, 3)) (hf : cells + mc ≤ R.cells ∧ slots + ms ≤ R.slots) : gR p l e R s m args below meth c D A nL cells slots mc ms pc st rest (mj P Q) (Qc As.toArray) (Af A Q) := by
  obtain ⟨hc, hini, hq, hl, hstat⟩ := hx
  have hts := C.1.2.2.2.2
  intro H locs ls hW hz hls
  have hp : PreS s H (va_Pc As (fun U => cT D tys (Af A Q) P U ∧ cL U)) As := ⟨cL_blind, fun U hU hWm => ⟨rfl, cT_atF C hd hW hz U hU hWm, cL_warm hWm hL⟩⟩
  exact vx_runSW C.1 hM ⟨⟨hrm.1, hrm.2.1, hrm.2.2.1, hrm.2.2.2, pay_in hts (good_wsW hc), List.mem_cons_self⟩, hts _ hc, hts _ hini, ⟨hq.1, hq.2.1⟩, fun sig h => by have h2 := hq.2.2; rw [h] at h2; exact (Option.some.inj h2).symm, hts _ hl, hts _ hstat⟩ hp rfl hn hls hst (lv_room hcat) hdg hf
/-- a call that may throw -/
theorem g_xcall (C : cX p m meth c cc nL s args own D tys A) (hd : dj P Q) {index ci : Nat} {y : MethodName} {bytes : ByteArray} {maxL n b mc ms : Nat} {ret : Option FieldType} {rm : Room} {fs : List Value} {post : Int → Wm → Prop} {px : String → Prop} (As : List Value) (hx : xCV own index ci y bytes maxL ret n) (hlk : Cond.methodLink own index y ∈ xAll)
    (hM : xT l y bytes maxL ret rm D tys (Af A Q) (.ref b :: As) P (qI D (Af A Q) post) px mc ms) (he : P b = some (.inr (ci, fs))) (hrm : rm.cells = mc ∧ rm.slots = ms ∧ rm.frames + 1 ≤ R.frames ∧ 8 + (maxL + 11) + rm.locals ≤ R.locals) (hst : st = As.reverse ++ .ref b :: rest) (hn : As.length = n) (hcat : (rest.map fun v => v.category).sum ≤ 8)
    (hdg : decode cc pc = .ok (.invokevirtual index, 3)) (hf : cells + mc ≤ R.cells ∧ slots + ms ≤ R.slots)
    (kk : ∀ (z : Int) (P' : Wm), post z P' → dj P' Q → gW p l e R s m args below meth c D A nL (cells + mc) (slots + ms) Qg wX (pc + 3) lv (.int (iI z) :: rest) (mj P' Q))
    (kx : ∀ E : String, px E → ∀ (H1 : Heap) (locs1 : List Loc) (ls : Array Slot) (ce : Cell) (q9 : Addr), wd_ok D xCl A (mj P Q) H1 → va_S A s.heap H1 locs1 → lv_has ls nL lv → H1[q9]? = some ce → ce.vm = .none → s.vm.findClass E = some ce.cls → vx_W p l e R s m args below meth c H1 locs1 (cells + mc) (slots + ms) Qg (F0 m pc ls rest) q9) : gW p l e R s m args below meth c D A nL cells slots Qg Ph pc lv st (mj P Q) := by
  obtain ⟨⟨hc, hini, hq, -⟩, hinst, hsel, T, N, hcl⟩ := hx
  have hts := C.1.2.2.2.2
  intro H locs ls _ hW hS hls
  have hrec := va_recv C.2.1 (wd_one (wd_l hW hd) he) hcl (q0 := 0) rfl
  have hp : PreV s H y.cls b (va_Pc (.ref b :: As) (cT D tys (Af A Q) P)) As := ⟨cT_blind, hrec, fun U hU hWm => ⟨rfl, cT_atF C hd hW hS U hU hWm⟩⟩
  refine vx_calli (vx_runV C.1 hM ⟨callB_of n hts (good_wsY hc) rfl hrm.1 hrm.2.1 (hts _ hini) (hts _ hlk) hq ⟨hrm.2.2.1, hrm.2.2.2⟩, hts _ hinst, hts _ hsel⟩ hp rfl hn hls.1 hst (lv_room hcat) hdg hf) hS (fun q _ h => h.1) (fun q h => h.1) (fun q _ h => h.1) ?_ ?_
  · intro E ce q9 u t H1 locs1 ht _ _ hB _ hk hS1 h1 h2 h3
    obtain ⟨hpx, hB⟩ := hB
    exact kx E hpx H1 locs1 ls ce q9 (wd_j (show wd_ok D xCl (Af A Q) P H1 by rw [← ht]; exact hB) (wd_k (wd_r hW) hk)).1 hS1 hls h1 h2 h3
  · intro r u t H1 locs1 ht _ hp hB _ hk hS1
    obtain ⟨z, rfl, hp⟩ := hp
    obtain ⟨h1, h2⟩ := wd_j (show wd_ok D xCl (Af A Q) u H1 by rw [← ht]; exact hB) (wd_k (wd_r hW) hk)
    exact kk z u hp h2 H1 locs1 ls trivial h1 hS1 hls
theorem g_catch (C : cX p m meth c cc nL s args own D tys A) {name E : String} {ce : Cell} {q9 : Addr} {H1 : Heap} {locs1 : List Loc} {ls : Array Slot} (pre : List ExceptionTableEntry) (x : ExceptionTableEntry) (suf : List ExceptionTableEntry) (hsplit : c.exceptionTable.toList = pre ++ x :: suf)
    (hpass : ∀ z ∈ pre, z.catchType ≠ 0 ∧ ∃ nm : String, Cond.classLink own z.catchType nm ∈ xAll ∧ va_Nc E nm s) (hx : covers x pc = true) (h0 : x.catchType ≠ 0)
    (hlink : Cond.classLink own x.catchType name ∈ xAll) (hcast : va_Nw (.castable E name) s) (hW : wd_ok D xCl A M H1) (hS : va_S A s.heap H1 locs1) (hls : lv_has ls nL lv) (h1 : H1[q9]? = some ce) (h2 : ce.vm = .none) (h3 : s.vm.findClass E = some ce.cls)
    (kk : gW p l e R s m args below meth c D A nL cells slots Qg wX x.handlerPc lv [.ref q9] M) : vx_W p l e R s m args below meth c H1 locs1 cells slots Qg (F0 m pc ls rest) q9 :=
  vx_catch C.1.2.2.2.1 pre x suf hsplit (fun z hz => Or.inr ⟨(hpass z hz).1, (hpass z hz).2.choose, C.1.2.2.2.2 _ (hpass z hz).2.choose_spec.1, (hpass z hz).2.choose_spec.2⟩) hx h0 (C.1.2.2.2.2 _ hlink) (va_Nw.use rfl hcast) h1 h2 h3 (kk H1 locs1 ls trivial hW hS hls)
end LR
/-! sorted by due days: each part has its own rank -/
theorem bfc_lt {d : Nat → Int} {n p : Nat} (h : p < n) : bfc d n p < n := by
  obtain ⟨L, h1, h2⟩ := srt_ex d n
  obtain ⟨k, hk⟩ := List.mem_iff_getElem?.mp (h1.mem_iff.mpr (List.mem_range.mpr h))
  rw [bfc_at h1 h2 hk]
  have h3 := (List.getElem?_eq_some_iff.mp hk).1
  rw [h1.length_eq, List.length_range] at h3
  exact h3
theorem bfc_inj {d : Nat → Int} {n p q : Nat} (hp : p < n) (hq : q < n) (e : bfc d n p = bfc d n q) : p = q := by
  obtain ⟨L, h1, h2⟩ := srt_ex d n
  obtain ⟨k, hk⟩ := List.mem_iff_getElem?.mp (h1.mem_iff.mpr (List.mem_range.mpr hp))
  obtain ⟨j, hj⟩ := List.mem_iff_getElem?.mp (h1.mem_iff.mpr (List.mem_range.mpr hq))
  rw [bfc_at h1 h2 hk, bfc_at h1 h2 hj] at e
  subst e
  rw [hk] at hj
  exact Option.some.inj hj
theorem late_un {d : Nat → Int} {n : Nat} {v zc zm : Int} (hv : 0 ≤ v) (hc : ((n : Int) ≤ v ∧ zc = -1) ∨ (v < (n : Int) ∧ (0 ≤ zc ∧ zc < (n : Int)) ∧ bfc d n zc.toNat = v.toNat))
    (hm : (zm = -1 ∧ ∀ p, p < n → ¬ ((bfc d n p : Nat) : Int) = v) ∨ (∃ p : Nat, p < n ∧ zm = (p : Int) ∧ ((bfc d n p : Nat) : Int) = v)) : zc = zm := by
  rcases hc with ⟨c1, rfl⟩ | ⟨c1, c2, c3⟩
  · rcases hm with ⟨rfl, -⟩ | ⟨p, p1, rfl, p3⟩
    · rfl
    · have := bfc_lt (d := d) p1
      omega
  · rcases hm with ⟨-, m2⟩ | ⟨p, p1, rfl, p3⟩
    · exact absurd (show ((bfc d n zc.toNat : Nat) : Int) = v by omega) (m2 zc.toNat (by omega))
    · have := bfc_inj (d := d) (p := zc.toNat) (q := p) (by omega) p1 (by omega)
      omega
