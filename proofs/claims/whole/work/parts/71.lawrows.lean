/-! THE LAW'S WALK: its script's cells, the comparison behind each call. -/
abbrev lvL (b x md ou : Nat) (i : Int) : List (Nat × Value) := [(4, .int (iI i)), (3, .ref ou), (2, .ref md), (1, .ref x), (0, .ref b)]
def cS (b L : Nat) (xs : Nat → Int32) (A : Nat → Prop) (U : State) : Prop := va_X b L xs U U.heap ∧ b < U.heap.size ∧ ¬ A b
theorem cS_blind {D : va_G} {tys : xK} {A : Nat → Prop} {M : Wm} {av : List Value} {b L : Nat} {xs : Nat → Int32} : FrameBlind (va_Pc av (fun U => cT D tys A M U ∧ cS b L xs A U)) := by
  intro a U g mk h
  obtain ⟨h0, h1, h2⟩ := h
  exact ⟨h0, (cT_blind (av := av) (D := D) (tys := tys) (A := A) (M := M) a U g mk ⟨h0, h1⟩).2, va_X.moved (u := U) (U := U.calling g mk a) (Vm.Alike.refl U.vm) h2.1, h2.2⟩
/-- the value of the script's cell k, 0 behind its end -/
def cV (L : Nat) (xs : Nat → Int32) (k : Int) : Int := if k < (L : Int) then (xs k.toNat).toInt else 0
theorem cV_rng {L : Nat} {xs : Nat → Int32} {k : Int} : -2147483648 ≤ cV L xs k ∧ cV L xs k < 2147483648 := by
  unfold cV
  split
  · exact iI_rng _
  · omega
theorem ct_La_cell (l : Launch) (D : va_G) (tys : xK) (A : Nat → Prop) (M : Wm) (b L : Nat) (xs : Nat → Int32) (hL : L < 2147483648) (k : Int) (hk : 0 ≤ k ∧ k < 2147483648) : Met l y_La_cell (wsY y_La_cell b_La_cell 2 (some .int)) { frames := 0, cells := 0, slots := 0, locals := 0 } (va_Pc [.ref b, .int (iI k)] (fun U => cT D tys A M U ∧ cS b L xs A U)) (qP (fun z => z = cV L xs k)) 0 0 (fun _ => False) := by
  refine Met.ofW (cc := b_La_cell) (maxL := 2) (ret := some .int) (by decide +kernel) rfl ?_
  intro p e s m args below meth c s₁ B hml hv
  obtain ⟨rfl, ⟨hW, hK, hN, hA, hZ⟩, hX, hbl, hbA⟩ := hv
  have hts := atoms_spec (ws := wsY y_La_cell b_La_cell 2 (some .int)) B.pre
  have hown : s.vm.findClass R_La = some m.cls := findClass_of_methodNamed B.named
  have hl := lv_entry ([.ref b, .int (iI k)]) (n := 2) (Nat.le_of_ble_eq_true rfl)
  rw [lg_entry_eq]
  have C : cX p m meth c b_La_cell 2 s ([.ref b, .int (iI k)] : List Value).toArray R_La D tys A := ⟨⟨B.exec, B.bytes, hml, hown, fun w h => hts w (List.mem_cons_of_mem _ h)⟩, hK, hN, hA, B.notSynchronized, hZ⟩
  have hr := B.returns
  have body : gW p l e { frames := 0, cells := 0, slots := 0, locals := 0 } s m ([.ref b, .int (iI k)] : List Value).toArray below meth c D A 2 0 0 (MQ below (qP (fun z => z = cV L xs k)) ([.ref b, .int (iI k)] : List Value).toArray s 0 0 (fun _ => False)) (wN s) 0 [(0, .ref b), (1, .int (iI k))] [] M := by
    refine g_iload_n C d_La_cell_0 1 rfl ?_
    refine g_aload_n C d_La_cell_1 0 rfl ?_
    refine g_slen C hX hbl hbA d_La_cell_2 ?_
    refine g_icmp_ge C 12 d_La_cell_3 (by decide) ⟨by omega, by omega⟩ (fun q => ?_) (fun q => ?_)
    · refine g_iconst C d_La_cell_12 ?_
      exact g_iretP C hr d_La_cell_13 (show (0 : Int) = cV L xs k by unfold cV; rw [if_neg (by omega)])
    · refine g_aload_n C d_La_cell_6 0 rfl ?_
      refine g_iload_n C d_La_cell_7 1 rfl ?_
      refine g_sld C hX hbl hbA ⟨hk.1, by omega⟩ hL d_La_cell_8 ?_
      refine g_goto C 13 d_La_cell_9 (by decide) ?_
      exact g_iretP C hr d_La_cell_13 (show (xs k.toNat).toInt = cV L xs k by unfold cV; rw [if_pos (by omega)])
  exact body s.heap [] _ ⟨rfl, rfl⟩ hW va_S.rf hl
section LW
variable {p : Program} {l : Launch} {e : Env} {R : Room} {s : State} {m : MethodId} {args : Array Value} {below : List Frame} {meth : Method} {c : Code} {cells slots : Nat} {Qg : State → Prop} {Ph : Heap → List Loc → Prop}
variable {cc : ByteArray} {pc nL : Nat} {own : String} {D : va_G} {A : Nat → Prop} {tys : xK} {lv lv' : List (Nat × Value)} {st rest : List Value} {M P Q : Wm} {H : Heap}
/-- the call of cell(script, k) -/
theorem g_cell (C : cX p m meth c cc nL s args R_La D tys A) {b L : Nat} {xs : Nat → Int32} (hX : va_X b L xs s s.heap) (hbl : b < s.heap.size) (hbA : ¬ A b) (hL : L < 2147483648) {k : Int} (hk : 0 ≤ k ∧ k < 2147483648) (hR : 1 ≤ R.frames ∧ 21 ≤ R.locals ∧ cells ≤ R.cells ∧ slots ≤ R.slots) (hcat : (rest.map fun v => v.category).sum ≤ 8) (hd : decode cc pc = .ok (.invokestatic 66, 3)) (kk : gW p l e R s m args below meth c D A nL cells slots Qg Ph (pc + 3) lv (.int (iI (cV L xs k)) :: rest) M) : gW p l e R s m args below meth c D A nL cells slots Qg Ph pc lv (.int (iI k) :: .ref b :: rest) M := by
  refine g_calliP C (a := ([.ref b, .int (iI k)] : List Value).toArray) (rest := rest) (post := fun z => z = cV L xs k) ?_ (fun z hz => by subst hz; exact kk)
  obtain ⟨⟨hc, hini, hq, hl⟩, hstat⟩ := k_La_66
  have hts := C.1.2.2.2.2
  intro H locs ls hW hz hls
  have hp : PreS s H (va_Pc [.ref b, .int (iI k)] (fun U => cT D tys A M U ∧ cS b L xs A U)) [.ref b, .int (iI k)] := ⟨cS_blind, fun U hU hWm => ⟨rfl, cT_at C hW hz U hU hWm, by rw [hU]; exact (hX.kept (hz.2.1 b hbl hbA)).moved hWm.alike, by rw [hU]; exact Nat.lt_of_lt_of_le hbl hz.1, hbA⟩⟩
  rcases hl with hl | ⟨host, hl⟩
  · exact va_runS C.1 (ct_La_cell l D tys A M b L xs hL k hk) ⟨callB_of 2 hts (good_wsY hc) rfl rfl rfl (hts _ hini) (hts _ hl) hq ⟨by show 0 + 1 ≤ _; omega, by show 8 + (2 + 11) + 0 ≤ _; omega⟩, hts _ hstat⟩ hp rfl rfl hls rfl (lv_room hcat) hd ⟨by omega, by omega⟩
  · exact va_runSN C.1 (ct_La_cell l D tys A M b L xs hL k hk) ⟨va_cnB 2 hts (good_wsY hc) rfl rfl rfl (C.2.2.1 _ hl) (hts _ hini) hq ⟨by show 0 + 1 ≤ _; omega, by show 8 + (2 + 11) + 0 ≤ _; omega⟩, hts _ hstat, trivial⟩ hp rfl rfl hls rfl (lv_room hcat) hd ⟨by omega, by omega⟩
/-- script[i + n] is pushed -/
theorem g_arg (C : cX p m meth c cc nL s args own D tys A) {b L : Nat} {xs : Nat → Int32} (hX : va_X b L xs s s.heap) (hbl : b < s.heap.size) (hbA : ¬ A b) (hL : L < 2147483648) {i n : Int} (i0 i4 : Nat) (h0 : lv[i0]? = some (((0 : Fin 4) : Nat), .ref b)) (h4 : lv[i4]? = some (4, .int (iI i))) (hi : 0 ≤ i + n ∧ i + n < (L : Int)) (d0 : decode cc pc = .ok (.aload_n 0, 1)) (d1 : decode cc (pc + 1) = .ok (.iload 4, 2)) (d3 : decode cc (pc + 3) = .ok (.iconst n, 1)) (d4 : decode cc (pc + 4) = .ok (.iadd, 1)) (d5 : decode cc (pc + 5) = .ok (.iaload, 1)) (k : gW p l e R s m args below meth c D A nL cells slots Qg Ph (pc + 6) lv (.int (iI (xs (i + n).toNat).toInt) :: st) M) : gW p l e R s m args below meth c D A nL cells slots Qg Ph pc lv st M := by
  refine g_aload_n C d0 i0 h0 ?_
  refine g_iload C d1 i4 h4 ?_
  refine g_iconst C d3 ?_
  refine g_iadd C d4 ?_
  exact g_sld C hX hbl hbA hi hL d5 k
theorem g_argB (C : cX p m meth c cc nL s args own D tys A) {b L : Nat} {xs : Nat → Int32} (hX : va_X b L xs s s.heap) (hbl : b < s.heap.size) (hbA : ¬ A b) (hL : L < 2147483648) {i n : Int} (hn : (Int8.ofInt n).toInt32 = iI n) (i0 i4 : Nat) (h0 : lv[i0]? = some (((0 : Fin 4) : Nat), .ref b)) (h4 : lv[i4]? = some (4, .int (iI i))) (hi : 0 ≤ i + n ∧ i + n < (L : Int)) (d0 : decode cc pc = .ok (.aload_n 0, 1)) (d1 : decode cc (pc + 1) = .ok (.iload 4, 2)) (d3 : decode cc (pc + 3) = .ok (.bipush n, 2)) (d4 : decode cc (pc + 5) = .ok (.iadd, 1)) (d5 : decode cc (pc + 6) = .ok (.iaload, 1)) (k : gW p l e R s m args below meth c D A nL cells slots Qg Ph (pc + 7) lv (.int (iI (xs (i + n).toNat).toInt) :: st) M) : gW p l e R s m args below meth c D A nL cells slots Qg Ph pc lv st M := by
  refine g_aload_n C d0 i0 h0 ?_
  refine g_iload C d1 i4 h4 ?_
  refine g_bipush C d3 hn ?_
  refine g_iadd C d4 ?_
  exact g_sld C hX hbl hbA hi hL d5 k
/-- the comparison behind a call, from 'm.thrown()' to the switch's end -/
theorem g_tail (C : cX p m meth c cc nL s args R_La D tys A) (hT : tyOK tys) {b x md ou : Nat} {i k r : Int} {Mm Mc : Wm} {f : Nat → Int64} {sp : AS} (off : Int) (hj : J9 tys x md sp Mc Mm f k r) (hd : dj Mm (mj Mc (oU tys ou f))) (hR : 1 ≤ R.frames ∧ 20 ≤ R.locals ∧ cells ≤ R.cells ∧ slots ≤ R.slots)
    (d0 : decode cc pc = .ok (.aload_n 2, 1)) (d1 : decode cc (pc + 1) = .ok (.invokevirtual 82, 3)) (d4 : decode cc (pc + 4) = .ok (.iload 5, 2)) (d6 : decode cc (pc + 6) = .ok (.if_icmp .eq 5, 3)) (d11 : decode cc (pc + 11) = .ok (.iload 5, 2)) (d13 : decode cc (pc + 13) = .ok (.ifCond .ne 15, 3)) (d16 : decode cc (pc + 16) = .ok (.aload_n 3, 1)) (d17 : decode cc (pc + 17) = .ok (.iconst 0, 1)) (d18 : decode cc (pc + 18) = .ok (.laload, 1)) (d19 : decode cc (pc + 19) = .ok (.iload 6, 2)) (d21 : decode cc (pc + 21) = .ok (.i2l, 1)) (d22 : decode cc (pc + 22) = .ok (.lcmp, 1)) (d23 : decode cc (pc + 23) = .ok (.ifCond .eq 5, 3)) (d28 : decode cc (pc + 28) = .ok (.goto off, 3)) (hoff : ((pc + 28 : Nat) : Int) + off = 1268)
    (K : ∀ s' : AS, RC tys Mc x s' → RM tys Mm md s' k → s' 7 0 0 ≤ sp 7 0 0 + 1 → gW p l e R s m args below meth c D A nL cells slots Qg wX 1268 ((6, .int (iI r)) :: (5, .int (iI k)) :: lvL b x md ou i) [] (mj Mm (mj Mc (oU tys ou f)))) : gW p l e R s m args below meth c D A nL cells slots Qg wX pc ((6, .int (iI r)) :: (5, .int (iI k)) :: lvL b x md ou i) [] (mj Mm (mj Mc (oU tys ou f))) := by
  obtain ⟨s', hRC, hRM, hk, hval, h7⟩ := hj
  have G : gW p l e R s m args below meth c D A nL cells slots Qg wX (pc + 28) ((6, .int (iI r)) :: (5, .int (iI k)) :: lvL b x md ou i) [] (mj Mm (mj Mc (oU tys ou f))) := g_goto C 1268 d28 (by omega) (K s' hRC hRM h7)
  obtain ⟨a, fm, v7, v8, v9, hMA, -, -⟩ := hRM
  refine g_aload_n C d0 4 rfl ?_
  refine g_calliP C (run_VF C hd [] k_La_82 (ct_Mo_thrown l D tys _ Mm hT md _ _ _ _ _ _ _ _ _ _ _ _ hMA) hMA.1 ⟨rfl, rfl, by show 0 + 1 ≤ _; omega, by show 8 + (1 + 11) + 0 ≤ _; omega⟩ rfl rfl (Nat.le_of_ble_eq_true rfl) d1 ⟨by omega, by omega⟩) (fun z hz => ?_)
  subst hz
  refine g_iload C d4 1 rfl ?_
  refine g_icmp_eq C (pc + 11) d6 (by omega) ⟨by omega, by omega⟩ (fun _ => ?_) (fun q => absurd rfl q)
  refine g_iload C d11 1 rfl ?_
  refine g_if_ne C (pc + 28) d13 (by omega) (by omega) (fun _ => G) (fun q => ?_)
  refine g_aload_n C d16 3 rfl ?_
  refine g_iconst C d17 ?_
  refine g_laldO C hT.2.1 (mj_r (mj_r oU_s)) d18 ?_
  refine g_eq rfl (congrArg (fun v => [Value.long v]) (hval q)) ?_
  refine g_iload C d19 0 rfl ?_
  refine g_i2lN C d21 ?_
  have hr := nz_rng r
  refine g_lcmp C ⟨by omega, by omega⟩ d22 ?_
  rw [if_neg (Int.lt_irrefl _), if_pos rfl]
  exact g_if_eq C (pc + 28) d23 (by omega) (by omega) (fun _ => G) (fun q2 => absurd rfl q2)
end LW
theorem and15 (y : Int32) : ∃ w : Int, (0 ≤ w ∧ w ≤ 15) ∧ y &&& iI 15 = iI w := by
  refine ⟨(y &&& iI 15).toInt, ?_, (iI_of _).symm⟩
  have e : (y &&& iI 15).toBitVec.toNat ≤ 15 := by
    rw [Int32.toBitVec_and, BitVec.toNat_and]
    exact Nat.and_le_right
  have e2 : (y &&& iI 15).toInt = ((y &&& iI 15).toBitVec.toNat : Int) := BitVec.toInt_eq_toNat_of_lt (by omega)
  omega
