/-! switches -/
section XS
variable {p : Program} {l : Launch} {e : Env} {R : Room} {s : State} {m : MethodId} {args : Array Value} {below : List Frame} {meth : Method} {c : Code} {cells slots : Nat} {Q : State → Prop} {P : Heap → List Loc → Prop}
variable {cc : ByteArray} {pc nL : Nat} {own : String} {D : va_G} {A : Nat → Prop} {tys : xK} {lv : List (Nat × Value)} {st : List Value} {M : Wm}
theorem g_tabIn (C : cX p m meth c cc nL s args own D tys A) {dflt lo hi z off : Int} {offs : Array Int} {len : Nat} (tgt : Nat) (hd : decode cc pc = .ok (.tableswitch dflt lo hi offs, len)) (hz : -2147483648 ≤ z ∧ z < 2147483648) (h : ¬ z < lo ∧ ¬ hi < z) (ho : offs[(z - lo).toNat]? = some off) (ht : (pc : Int) + off = (tgt : Int)) (k : gW p l e R s m args below meth c D A nL cells slots Q P tgt lv st M) : gW p l e R s m args below meth c D A nL cells slots Q P pc lv (.int (iI z) :: st) M :=
  fun H locs ls hP hW hS hl => lv_tableIn C.1.1 C.1.2.1 hd (by rw [iI_toInt hz]; exact h.1) (by rw [iI_toInt hz]; exact h.2) (by rw [iI_toInt hz]; exact ho) ht (k H locs ls hP hW hS hl)
theorem g_tabOut (C : cX p m meth c cc nL s args own D tys A) {dflt lo hi z : Int} {offs : Array Int} {len : Nat} (tgt : Nat) (hd : decode cc pc = .ok (.tableswitch dflt lo hi offs, len)) (hz : -2147483648 ≤ z ∧ z < 2147483648) (h : z < lo ∨ hi < z) (ht : (pc : Int) + dflt = (tgt : Int)) (k : gW p l e R s m args below meth c D A nL cells slots Q P tgt lv st M) : gW p l e R s m args below meth c D A nL cells slots Q P pc lv (.int (iI z) :: st) M :=
  fun H locs ls hP hW hS hl => lv_tableOut C.1.1 C.1.2.1 hd (by rw [iI_toInt hz]; exact h) ht (k H locs ls hP hW hS hl)
theorem g_ldc_w (C : cX p m meth c cc nL s args own D tys A) {index : Nat} (n : Int) (hc : Jvm.Cond.constant own index (iI n) ∈ xAll) (hd : decode cc pc = .ok (.ldc_w index, 3)) (k : gW p l e R s m args below meth c D A nL cells slots Q P (pc + 3) lv (.int (iI n) :: st) M) : gW p l e R s m args below meth c D A nL cells slots Q P pc lv st M :=
  fun H locs ls hP hW hS hl => lv_ldcw C.1.1 C.1.2.1 C.1.2.2.2.1 (C.1.2.2.2.2 _ hc) hd (k H locs ls hP hW hS hl)
end XS
