/-! TWO WORLDS SIDE BY SIDE: a call that knows of the one leaves the other as it is. -/
def mj (P Q : Wm) : Wm := fun q => match Q q with
  | some x => some x
  | none => P q
def dj (P Q : Wm) : Prop := ∀ q : Nat, P q = none ∨ Q q = none
def Af (A : Nat → Prop) (N : Wm) : Nat → Prop := fun q => A q ∧ N q = none
theorem mj_r {P Q : Wm} {q : Nat} {x : va_E} (h : Q q = some x) : mj P Q q = some x := by unfold mj; rw [h]
theorem mj_n {P Q : Wm} {q : Nat} (h : Q q = none) : mj P Q q = P q := by unfold mj; rw [h]
theorem mj_l {P Q : Wm} {q : Nat} {x : va_E} (hd : dj P Q) (h : P q = some x) : mj P Q q = some x := by
  rcases hd q with e | e
  · rw [e] at h; cases h
  · rw [mj_n e]; exact h
theorem mj_x {P Q : Wm} {q : Nat} {x : va_E} (h : mj P Q q = some x) : (Q q = some x) ∨ (Q q = none ∧ P q = some x) := by
  cases hq : Q q with
  | none => rw [mj_n hq] at h; exact Or.inr ⟨rfl, h⟩
  | some y => rw [mj_r hq] at h; exact Or.inl h
theorem dj_c {P Q : Wm} (h : dj P Q) : dj Q P := fun q => (h q).symm
theorem mj_c {P Q : Wm} (h : dj P Q) (q : Nat) (x : va_E) (hx : mj P Q q = some x) : mj Q P q = some x := by
  rcases mj_x hx with e | ⟨_, e⟩
  · exact mj_l (dj_c h) e
  · exact mj_r e
theorem dj_mj {P Q N : Wm} (h1 : dj P N) (h2 : dj Q N) : dj (mj P Q) N := by
  intro q
  rcases h2 q with e | e
  · rw [mj_n e]; exact h1 q
  · exact Or.inr e
theorem dj_of {P Q N : Wm} (h : dj (mj P Q) N) (hd : dj P Q) : dj P N ∧ dj Q N := by
  refine ⟨fun q => ?_, fun q => ?_⟩
  · rcases h q with e | e
    · refine Or.inl ?_
      cases hp : P q with
      | none => rfl
      | some x => rw [mj_l hd hp] at e; cases e
    · exact Or.inr e
  · rcases h q with e | e
    · refine Or.inl ?_
      cases hp : Q q with
      | none => rfl
      | some x => rw [mj_r hp] at e; cases e
    · exact Or.inr e
theorem wd_l {D : va_G} {cl : List vw_C} {A : Nat → Prop} {P Q : Wm} {H : Heap} (h : wd_ok D cl A (mj P Q) H) (hd : dj P Q) : wd_ok D cl (Af A Q) P H := by
  intro q x hx
  have h1 := h q x (mj_l hd hx)
  refine ⟨h1.1, h1.2, ?_⟩
  rcases hd q with e | e
  · rw [e] at hx; cases hx
  · exact e
theorem wd_r {D : va_G} {cl : List vw_C} {A : Nat → Prop} {P Q : Wm} {H : Heap} (h : wd_ok D cl A (mj P Q) H) : wd_ok D cl A Q H := fun q x hx => h q x (mj_r hx)
theorem wd_j {D : va_G} {cl : List vw_C} {A : Nat → Prop} {P Q : Wm} {H : Heap} (h1 : wd_ok D cl (Af A Q) P H) (h2 : wd_ok D cl A Q H) : wd_ok D cl A (mj P Q) H ∧ dj P Q := by
  refine ⟨fun q x hx => ?_, fun q => ?_⟩
  · rcases mj_x hx with e | ⟨_, e⟩
    · exact h2 q x e
    · exact ⟨(h1 q x e).1, (h1 q x e).2.1⟩
  · cases hp : P q with
    | none => exact Or.inl rfl
    | some x => exact Or.inr (h1 q x hp).2.2
theorem wd_k {D : va_G} {cl : List vw_C} {A : Nat → Prop} {Q : Wm} {H H1 : Heap} (h : wd_ok D cl A Q H) (hk : ∀ q : Nat, q < H.size → ¬ Af A Q q → H1[q]? = H[q]?) : wd_ok D cl A Q H1 := by
  intro q x hx
  refine ⟨(h q x hx).1.kept (hk q (h q x hx).1.lt (fun z => ?_)), (h q x hx).2⟩
  rw [z.2] at hx
  cases hx
theorem sT_narrow {A B : Nat → Prop} {U : State} (h : sT A U) (hAB : ∀ q, B q → A q) : sT B U := ⟨h.1, vx_Zq.narrow h.2.1 hAB, vx_Zq.narrow h.2.2 hAB⟩
/-- what the law and its wrappers hold of the classes thrown -/
def cL (U : State) : Prop := va_Nw (.castable xIA xIA) U ∧ va_Nw (.castable xIS xIS) U ∧ va_Nc xIS xIA U
theorem cL_same {u U : State} (hv : u.vm = U.vm) (h : cL u) : cL U := ⟨va_Nw.same rfl hv h.1, va_Nw.same rfl hv h.2.1, va_Nc.moved (by rw [← hv]; exact Vm.Alike.refl _) h.2.2⟩
theorem cL_warm {s U : State} (hW : s.WarmedH U.vm) (h : cL s) : cL U := ⟨va_Nw.warmC hW h.1, va_Nw.warmC hW h.2.1, va_Nc.moved hW.alike h.2.2⟩
theorem cL_blind {D : va_G} {tys : xK} {A : Nat → Prop} {M : Wm} {av : List Value} : FrameBlind (va_Pc av (fun U => cT D tys A M U ∧ cL U)) := by
  intro a U g mk h
  obtain ⟨h0, h1, h2⟩ := h
  exact ⟨h0, (cT_blind (av := av) (D := D) (tys := tys) (A := A) (M := M) a U g mk ⟨h0, h1⟩).2, cL_same (u := U) rfl h2⟩
section FR
variable {p : Program} {l : Launch} {e : Env} {R : Room} {s : State} {m : MethodId} {args : Array Value} {below : List Frame} {meth : Method} {c : Code} {cells slots : Nat} {Qg : State → Prop} {Ph : Heap → List Loc → Prop}
variable {cc : ByteArray} {pc nL : Nat} {own : String} {D : va_G} {A : Nat → Prop} {tys : xK} {lv lv' : List (Nat × Value)} {st rest : List Value} {M P Q : Wm} {H : Heap}
theorem cT_atF {locs : List Loc} (C : cX p m meth c cc nL s args own D tys A) (hd : dj P Q) (hW : wd_ok D xCl A (mj P Q) H) (hz : va_S A s.heap H locs) : ∀ U : State, U.heap = H → s.WarmedH U.vm → cT D tys (Af A Q) P U := by
  intro U hU hWm
  obtain ⟨h1, h2, h3, h4, h5⟩ := cT_at C hW hz U hU hWm
  refine ⟨by rw [hU]; exact wd_l hW hd, h2, h3, fun q hq => ⟨h4 q hq, ?_⟩, sT_narrow h5 (fun q h => h.1)⟩
  cases hm : Q q with
  | none => rfl
  | some x =>
    have h9 : q < H.size := (wd_r hW q x hm).1.lt
    rw [hU] at hq
    omega
/-- a world of which less is told -/
theorem g_less {M2 : Wm} (h : ∀ q x, M2 q = some x → M q = some x) (k : gW p l e R s m args below meth c D A nL cells slots Qg Ph pc lv st M2) : gW p l e R s m args below meth c D A nL cells slots Qg Ph pc lv st M := fun H locs ls hP hW hS hl => k H locs ls hP (hW.less h) hS hl
theorem g_wX (k : gW p l e R s m args below meth c D A nL cells slots Qg wX pc lv st M) : gW p l e R s m args below meth c D A nL cells slots Qg Ph pc lv st M := fun H locs ls _ hW hS hl => k H locs ls trivial hW hS hl
/-- calls, the other world set aside -/
theorem run_VF (C : cX p m meth c cc nL s args own D tys A) (hd : dj P Q) {index ci : Nat} {y : MethodName} {bytes : ByteArray} {maxL n b mc ms : Nat} {ret : Option FieldType} {rm : Room} {fs : List Value} {Qc : Array Value → State → Outcome → State → Prop} {free : Addr → Prop} (As : List Value) (hx : xCV own index ci y bytes maxL ret n)
    (hM : Met l y (wsY y bytes maxL ret) rm (va_Pc (.ref b :: As) (cT D tys (Af A Q) P)) Qc mc ms free) (he : P b = some (.inr (ci, fs))) (hrm : rm.cells = mc ∧ rm.slots = ms ∧ rm.frames + 1 ≤ R.frames ∧ 8 + (maxL + 11) + rm.locals ≤ R.locals) (hst : st = As.reverse ++ .ref b :: rest) (hn : As.length = n) (hcat : (rest.map fun v => v.category).sum ≤ 8)
    (hdg : decode cc pc = .ok (.invokevirtual index, 3)) (hf : cells + mc ≤ R.cells ∧ slots + ms ≤ R.slots) : gR p l e R s m args below meth c D A nL cells slots mc ms pc st rest (mj P Q) (Qc (Value.ref b :: As).toArray) free := by
  obtain ⟨⟨hc, hini, hq, hl⟩, hinst, hsel, T, N, hcl⟩ := hx
  have hts := C.1.2.2.2.2
  intro H locs ls hW hz hls
  have hrec := va_recv C.2.1 (wd_one (wd_l hW hd) he) hcl (q0 := 0) rfl
  have hp : PreV s H y.cls b (va_Pc (.ref b :: As) (cT D tys (Af A Q) P)) As := ⟨cT_blind, hrec, fun U hU hWm => ⟨rfl, cT_atF C hd hW hz U hU hWm⟩⟩
  rcases hl with hl | ⟨host, hl⟩
  · exact va_runV C.1 hM ⟨callB_of n hts (good_wsY hc) rfl hrm.1 hrm.2.1 (hts _ hini) (hts _ hl) hq ⟨hrm.2.2.1, hrm.2.2.2⟩, hts _ hinst, hts _ hsel⟩ hp rfl hn hls hst (lv_room hcat) hdg hf
  · exact va_runVN C.1 hM ⟨va_cnB n hts (good_wsY hc) rfl hrm.1 hrm.2.1 (C.2.2.1 _ hl) (hts _ hini) hq ⟨hrm.2.2.1, hrm.2.2.2⟩, hts _ hinst, hts _ hsel⟩ hp rfl hn hls hst (lv_room hcat) hdg hf
theorem run_IF (C : cX p m meth c cc nL s args own D tys A) (hd : dj P Q) {index : Nat} {y : MethodName} {bytes : ByteArray} {maxL n b mc ms : Nat} {rm : Room} {Qc : Array Value → State → Outcome → State → Prop} {free : Addr → Prop} (As : List Value) (hx : xCI own index y bytes maxL n)
    (hM : Met l y (wsY y bytes maxL none) rm (va_Pc (.ref b :: As) (cT D tys (Af A Q) P)) Qc mc ms free) (hrm : rm.cells = mc ∧ rm.slots = ms ∧ rm.frames + 1 ≤ R.frames ∧ 8 + (maxL + 11) + rm.locals ≤ R.locals) (hst : st = As.reverse ++ .ref b :: rest) (hn : As.length = n) (hcat : (rest.map fun v => v.category).sum ≤ 8)
    (hdg : decode cc pc = .ok (.invokespecial index, 3)) (hf : cells + mc ≤ R.cells ∧ slots + ms ≤ R.slots) : gR p l e R s m args below meth c D A nL cells slots mc ms pc st rest (mj P Q) (Qc (Value.ref b :: As).toArray) free := by
  obtain ⟨⟨hc, hini, hq, hl⟩, hnm, hinst⟩ := hx
  have hts := C.1.2.2.2.2
  intro H locs ls hW hz hls
  have hp : PreS s H (va_Pc (.ref b :: As) (cT D tys (Af A Q) P)) (.ref b :: As) := ⟨cT_blind, fun U hU hWm => ⟨rfl, cT_atF C hd hW hz U hU hWm⟩⟩
  rcases hl with hl | ⟨host, hl⟩
  · exact va_runI C.1 hM ⟨callB_of n hts (good_wsY hc) rfl hrm.1 hrm.2.1 (hts _ hini) (hts _ hl) hq ⟨hrm.2.2.1, hrm.2.2.2⟩, hnm, hts _ hinst⟩ hp rfl hn hls hst (lv_room hcat) hdg hf
  · exact va_runIN C.1 hM ⟨va_cnB n hts (good_wsY hc) rfl hrm.1 hrm.2.1 (C.2.2.1 _ hl) (hts _ hini) hq ⟨hrm.2.2.1, hrm.2.2.2⟩, hnm, hts _ hinst⟩ hp rfl hn hls hst (lv_room hcat) hdg hf
theorem g_calliF (C : cX p m meth c cc nL s args own D tys A) {mc ms : Nat} {a : Array Value} {post : Int → Wm → Prop} (hr : gR p l e R s m args below meth c D A nL cells slots mc ms pc st rest (mj P Q) (qI D (Af A Q) post a) (Af A Q)) (k : ∀ (z : Int) (P' : Wm), post z P' → dj P' Q → gW p l e R s m args below meth c D A nL (cells + mc) (slots + ms) Qg wX (pc + 3) lv (.int (iI z) :: rest) (mj P' Q)) : gW p l e R s m args below meth c D A nL cells slots Qg Ph pc lv st (mj P Q) := by
  intro H locs ls _ hW hS hls
  refine va_calli (hr H locs ls hW hS hls.1) hS (fun q _ h => h.1) (fun q h => h.1) (fun r u t H1 locs1 ht _ hp hB _ hk hS1 => ?_)
  obtain ⟨z, rfl, hp⟩ := hp
  have hB' : wd_ok D xCl (Af A Q) u H1 := by rw [← ht]; exact hB
  obtain ⟨h1, h2⟩ := wd_j hB' (wd_k (wd_r hW) hk)
  exact k z u hp h2 H1 locs1 ls trivial h1 hS1 hls
theorem g_callvF (C : cX p m meth c cc nL s args own D tys A) {mc ms : Nat} {a : Array Value} {post : Wm → Prop} (hr : gR p l e R s m args below meth c D A nL cells slots mc ms pc st rest (mj P Q) (qV D (Af A Q) post a) (Af A Q)) (k : ∀ (P' : Wm), post P' → dj P' Q → gW p l e R s m args below meth c D A nL (cells + mc) (slots + ms) Qg wX (pc + 3) lv rest (mj P' Q)) : gW p l e R s m args below meth c D A nL cells slots Qg Ph pc lv st (mj P Q) := by
  intro H locs ls _ hW hS hls
  refine va_callv (hr H locs ls hW hS hls.1) hS (fun q _ h => h.1) (fun q h => h.1) (fun u t H1 locs1 ht _ hp hB _ hk hS1 => ?_)
  have hB' : wd_ok D xCl (Af A Q) u H1 := by rw [← ht]; exact hB
  obtain ⟨h1, h2⟩ := wd_j hB' (wd_k (wd_r hW) hk)
  exact k u hp h2 H1 locs1 ls trivial h1 hS1 hls
end FR
