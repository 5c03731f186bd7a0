/-! THE CLAIM OUT OF ONE WALK OF THE LAW'S BODY. Your part is whole_start (and what it stands on); all else here is the same for every law, but numbers. -/
def R_law : String := "CareToursLaw"
def lw_P (b : Addr) (xs : List Int32) (args : Array Value) (s : State) : Prop := args = #[.ref b] ∧ s.IntsAt b xs ∧ xs.length ≤ 3585 ∧ (Jvm.Cond.and given_1 narrow_1).before args s = true
def lw_Q (_ : Array Value) (s : State) (o : Outcome) (t : State) : Prop := o = .returned (some (.int 1)) ∧ Framed s o t [] 601024 7293000
def lw_Z (below : List Frame) (a : Array Value) (s : State) : State → Prop := fun t => ∃ o, t.status = .running ∧ Ended t below o ∧ lw_Q a s o t
/-- the law's own end, with 1 on the stack, nothing written that was there before, its room as the claim has it -/
theorem lw_ret {p : Program} {l : Launch} {e : Env} {s : State} {m : MethodId} {below : List Frame} {meth : Method} {c : Code} {b : Nat} (hx : p.tables.exec = Jvm.exec) (hb : c.code = code) (hr : meth.sig.returnType = ret) (hlocks : meth.locks = false) {pc : Nat} {H : Heap} {ls : Array Slot} (hdg : decode code pc = .ok (.ireturn, 1)) : W p l e room_1 s m #[Value.ref b] below meth c H [] 601024 7293000 (lw_Z below #[Value.ref b] s) (F0 m pc ls [.int 1]) := by
  intro T hT X
  obtain ⟨fs, hret, hrun, hended, hW, hframe⟩ := X.leave (v := some (.int 1)) (hlocks := hlocks) (fun h => by rw [hr] at h; cases h)
  have hmeth' : T.vm.method? m = some meth := X.method'
  refine ⟨T.setFrames fs, ?_, .returned (some (.int 1)), hrun, hended, rfl, ⟨_, rfl⟩, hW, hframe⟩
  jvm_step X.here [X.here.top, hx, hb, hdg, hmeth', hr, ret, narrow_b1]
  (try refine ⟨rfl, ?_⟩); (try refine ⟨rfl, ?_⟩)
  first | (intro acts; rw [hret _ acts rfl rfl rfl]) | rw [hret _ _ rfl rfl rfl]
  exact Steps.refl _
/-- what holds at the law's entry: the machine, the code, the tables' words (any of lw_tbl by 'hts w (by decide +kernel)'), the script of L ints xs at the cell b, what the Statement gives of the start (any of its parts by flat_of_before) -/
def lw_At (p : Program) (s : State) (m : MethodId) (meth : Method) (c : Code) (b L : Nat) (xs : Nat → Int32) : Prop :=
  p.tables.exec = Jvm.exec ∧ c.code = code ∧ meth.sig.returnType = ret ∧ c.maxLocals = 7 ∧ s.vm.findClass R_law = some m.cls ∧ (∀ w ∈ lw_tbl, w.before #[Value.ref b] s = true) ∧ va_X b L xs s s.heap ∧ b < s.heap.size ∧ meth.locks = false ∧ (Jvm.Cond.and given_1 narrow_1).before #[Value.ref b] s = true
theorem st_Nw {b : Nat} {s : State} (hts : ∀ w ∈ lw_tbl, w.before #[Value.ref b] s = true) : ∀ w ∈ xNw, va_Nw w s := by
  intro w hw
  have h2 := (List.mem_filter.mp hw).2
  have h1 := hts w (xNw_tbl w hw)
  cases w with
  | fieldLinkNest => exact va_Nw.of rfl h1
  | methodLinkNest => exact va_Nw.of rfl h1
  | castable => exact va_Nw.of rfl h1
  | declares => exact va_Nw.of rfl h1
  | arrayOver ty => cases ty with
    | object C => exact va_AO.of h1
    | _ => cases h2
  | _ => cases h2
theorem st_D {b : Nat} {s : State} (hts : ∀ w ∈ lw_tbl, w.before #[Value.ref b] s = true) : ∃ D : va_G, ∀ (k : Nat) (q : vw_C), xCl[k]? = some q → u_Kn s q.1 q.2.1 q.2.2 (D.1 k) (D.2 k) := by
  have hall : ∀ w ∈ xAll, w.before #[Value.ref b] s = true := fun w h => hts w (xAll_tbl w h)
  obtain ⟨c0, i0, h0⟩ := u_known (C := R_Ho) (T := F_Ho) (N := 4) (n := 4) hall in_Ho (hts (.instantiable R_Ho 4) (xAll_tbl _ (xa_t 25 (by decide +kernel) rfl)))
  obtain ⟨c1, i1, h1⟩ := u_known (C := R_Li) (T := F_Li) (N := 6) (n := 6) hall in_Li (hts (.instantiable R_Li 6) (xAll_tbl _ (xa_t 289 (by decide +kernel) rfl)))
  obtain ⟨c2, i2, h2⟩ := u_known (C := R_Pt) (T := F_Pt) (N := 11) (n := 11) hall in_Pt (hts (.instantiable R_Pt 11) (xAll_tbl _ (xa_t 335 (by decide +kernel) rfl)))
  obtain ⟨c3, i3, h3⟩ := u_known (C := R_Pe) (T := F_Pe) (N := 4) (n := 4) hall in_Pe (hts (.instantiable R_Pe 4) (xAll_tbl _ (xa_t 396 (by decide +kernel) rfl)))
  obtain ⟨c4, i4, h4⟩ := u_known (C := R_Pl) (T := F_Pl) (N := 3) (n := 3) hall in_Pl (hts (.instantiable R_Pl 3) (xAll_tbl _ (xa_t 255 (by decide +kernel) rfl)))
  obtain ⟨c5, i5, h5⟩ := u_known (C := R_Pn) (T := F_Pn) (N := 4) (n := 4) hall in_Pn (hts (.instantiable R_Pn 4) (xAll_tbl _ (xa_t 55 (by decide +kernel) rfl)))
  obtain ⟨c6, i6, h6⟩ := u_known (C := R_To) (T := F_To) (N := 7) (n := 7) hall in_To (hts (.instantiable R_To 7) (xAll_tbl _ (xa_t 76 (by decide +kernel) rfl)))
  obtain ⟨c7, i7, h7⟩ := u_known (C := R_Ct) (T := F_Ct) (N := 10) (n := 10) hall in_Ct (hts (.instantiable R_Ct 10) (xAll_tbl _ (xa_t 17 (by decide +kernel) rfl)))
  obtain ⟨c8, i8, h8⟩ := u_known (C := R_Mo) (T := F_Mo) (N := 37) (n := 37) hall in_Mo (hts (.instantiable R_Mo 37) (xAll_tbl _ (xa_t 665 (by decide +kernel) rfl)))
  refine ⟨(fun k => if k = 0 then c0 else if k = 1 then c1 else if k = 2 then c2 else if k = 3 then c3 else if k = 4 then c4 else if k = 5 then c5 else if k = 6 then c6 else if k = 7 then c7 else c8, fun k => if k = 0 then i0 else if k = 1 then i1 else if k = 2 then i2 else if k = 3 then i3 else if k = 4 then i4 else if k = 5 then i5 else if k = 6 then i6 else if k = 7 then i7 else i8), ?_⟩
  intro k q hq
  match k, hq with
  | 0, hq => cases hq; exact h0
  | 1, hq => cases hq; exact h1
  | 2, hq => cases hq; exact h2
  | 3, hq => cases hq; exact h3
  | 4, hq => cases hq; exact h4
  | 5, hq => cases hq; exact h5
  | 6, hq => cases hq; exact h6
  | 7, hq => cases hq; exact h7
  | 8, hq => cases hq; exact h8
  | k + 9, hq => simp at hq
theorem st_A {b : Nat} {s : State} {C : String} (h : (Cond.arrayOver (.object C)).before #[Value.ref b] s = true) : ∃ (cA : ClassId) (kA : Class) (comp : ClassId), s.vm.classes[cA]? = some kA ∧ kA.kind = .array comp (.object C) ∧ ArrOfT s cA (.object C) ∧ va_RA s cA (.object C) := by
  obtain ⟨comp, cA, kA, f4, -, f2, f3, f1⟩ := Cond.arrayOver_spec h
  exact ⟨cA, kA, comp, f2, f3, fun N z => ⟨(fun k h => by cases h), kA, f2, comp, f3⟩, kA, comp, f2, f3, f4, f1⟩
theorem st_ne {s : State} {c1 c2 p1 p2 : ClassId} {k1 k2 : Class} {C1 C2 : String} (h1 : s.vm.classes[c1]? = some k1) (h2 : s.vm.classes[c2]? = some k2) (e1 : k1.kind = .array p1 (.object C1)) (e2 : k2.kind = .array p2 (.object C2)) (hC : C1 ≠ C2) : c1 ≠ c2 := by
  intro e
  subst e
  rw [h1] at h2
  cases h2
  rw [e1] at e2
  cases e2
  exact hC rfl
theorem st_I {b : Nat} {s : State} (h : (Cond.arrayClass .int).before #[Value.ref b] s = true) : ∃ cA : ClassId, ArrOfT s cA .int ∧ va_RA s cA .int := by
  obtain ⟨cA, kA, comp, h1, h2, h3⟩ := Cond.arrayClass_spec h
  exact ⟨cA, fun n z => ⟨fun k h => (by cases h), kA, h2, comp, h3⟩, h1⟩
theorem st_J {b : Nat} {s : State} (h : (Cond.arrayClass .long).before #[Value.ref b] s = true) : ∃ cA : ClassId, ArrOfT s cA .long ∧ va_RA s cA .long := by
  obtain ⟨cA, kA, comp, h1, h2, h3⟩ := Cond.arrayClass_spec h
  exact ⟨cA, fun n z => ⟨fun k h => (by cases h), kA, h2, comp, h3⟩, h1⟩
theorem st_T {b : Nat} {s : State} (hts : ∀ w ∈ lw_tbl, w.before #[Value.ref b] s = true) : ∃ tys : xK, tyOK tys ∧ ∀ (k : Nat) (q : ClassId × FieldType), tys[k]? = some q → ArrOfT s q.1 q.2 ∧ va_RA s q.1 q.2 := by
  obtain ⟨c0, a0, b0⟩ := st_I (hts _ (xAll_tbl _ ac_int))
  obtain ⟨c1, a1, b1⟩ := st_J (hts _ (xAll_tbl _ ac_long))
  obtain ⟨c2, k2, p2, f2, g2, a2, b2⟩ := st_A (C := "CareTours$Place") (hts _ (xNw_tbl _ (xn_t 31 (by decide +kernel) rfl)))
  obtain ⟨c3, k3, p3, f3, g3, a3, b3⟩ := st_A (C := "CareTours$Lift") (hts _ (xNw_tbl _ (xn_t 33 (by decide +kernel) rfl)))
  obtain ⟨c4, k4, p4, f4, g4, a4, b4⟩ := st_A (C := "CareTours$Part") (hts _ (xNw_tbl _ (xn_t 51 (by decide +kernel) rfl)))
  obtain ⟨c5, k5, p5, f5, g5, a5, b5⟩ := st_A (C := "CareTours$Person") (hts _ (xNw_tbl _ (xn_t 53 (by decide +kernel) rfl)))
  refine ⟨[(c0, .int), (c1, .long), (c2, .object "CareTours$Place"), (c3, .object "CareTours$Lift"), (c4, .object "CareTours$Part"), (c5, .object "CareTours$Person")], ⟨rfl, rfl, rfl, rfl, rfl, rfl, st_ne f3 f2 g3 g2 (by decide), st_ne f4 f2 g4 g2 (by decide), st_ne f5 f2 g5 g2 (by decide), st_ne f4 f3 g4 g3 (by decide), st_ne f5 f3 g5 g3 (by decide), st_ne f5 f4 g5 g4 (by decide)⟩, ?_⟩
  intro k q hq
  match k, hq with
  | 0, hq => cases hq; exact ⟨a0, b0⟩
  | 1, hq => cases hq; exact ⟨a1, b1⟩
  | 2, hq => cases hq; exact ⟨a2, b2⟩
  | 3, hq => cases hq; exact ⟨a3, b3⟩
  | 4, hq => cases hq; exact ⟨a4, b4⟩
  | 5, hq => cases hq; exact ⟨a5, b5⟩
  | k + 6, hq => simp at hq
theorem st_q1 : ∀ q ∈ xStr, Cond.stringRef q.1 q.2.1 q.2.2 ∈ tables_1 := by decide +kernel
theorem st_q2 : ∀ q ∈ xStr, Cond.exactly (.string q.1 q.2.1) "java/lang/String" ∈ flatC (Jvm.Cond.and given_1 narrow_1) := by decide +kernel
theorem st_L {b : Nat} {s : State} (hts : ∀ w ∈ lw_tbl, w.before #[Value.ref b] s = true) (hfl : ∀ w ∈ flatC (Jvm.Cond.and given_1 narrow_1), w.before #[Value.ref b] s = true) : cL s :=
  ⟨st_Nw hts _ (xn_t 169 (by decide +kernel) rfl), st_Nw hts _ (xn_t 236 (by decide +kernel) rfl), va_Nc.of (hfl (Cond.not (.castable xIS xIA)) (by decide +kernel))⟩
theorem st_S {b : Nat} {s : State} (hts : ∀ w ∈ lw_tbl, w.before #[Value.ref b] s = true) (hfl : ∀ w ∈ flatC (Jvm.Cond.and given_1 narrow_1), w.before #[Value.ref b] s = true) : sT (fun q : Nat => s.heap.size ≤ q) s := by
  have hA0 : ∀ a : Nat, a < s.heap.size → ¬ (fun q : Nat => s.heap.size ≤ q) a := fun a h => Nat.not_le.mpr h
  have hin := hts (Cond.initialized Bundle.tN) (List.mem_append_right _ (List.mem_of_getElem? (i := 7) (by decide +kernel)))
  refine ⟨fun q hq => ?_, vx_Zqof (hts _ (List.mem_append_right _ (List.mem_of_getElem? (i := 194) (by decide +kernel)))) hin (hfl _ (by decide +kernel)) hA0, vx_Zqof (hts _ (List.mem_append_right _ (List.mem_of_getElem? (i := 196) (by decide +kernel)))) hin (hfl _ (by decide +kernel)) hA0⟩
  obtain ⟨a, c, cell, k, e1, -⟩ := Cond.exactly_spec (hfl _ (st_q2 q hq))
  exact ⟨a, vk_R.of (hts _ (List.mem_append_right _ (st_q1 q hq))) e1⟩
theorem whole_start {p : Program} {e : Env} {s : State} {m : MethodId} {below : List Frame} {meth : Method} {c : Code} (l : Launch) (hl0 : l.stackTraces = false) {b L : Nat} {xs : Nat → Int32} (hL : L ≤ 3585) (C0 : lw_At p s m meth c b L xs) : W p l e room_1 s m #[Value.ref b] below meth c s.heap [] 0 0 (lw_Z below #[Value.ref b] s) (entryFrame m ([Value.ref b] : List Value).toArray 7) := by
  obtain ⟨hx, hb, hr, hml, hown, hts, hX, hbl, hlocks, hgv⟩ := id C0
  obtain ⟨D, hD⟩ := st_D hts
  obtain ⟨tys, hT, hTy⟩ := st_T hts
  have hfl := flat_of_before _ hgv
  have hA0 : ∀ a : Nat, a < s.heap.size → ¬ (fun q : Nat => s.heap.size ≤ q) a := fun a h => Nat.not_le.mpr h
  have C : cX p m meth c b_La_law 7 s #[Value.ref b] R_La D tys (fun q : Nat => s.heap.size ≤ q) := ⟨⟨hx, hb, hml, hown, fun w h => hts w (xAll_tbl w h)⟩, ⟨hD, hTy⟩, st_Nw hts, fun q h => h, hlocks, st_S hts hfl⟩
  have hl := lv_entry ([.ref b]) (n := 7) (Nat.le_of_ble_eq_true rfl)
  rw [lg_entry_eq]
  refine law_body C hl0 hT (st_L hts hfl) hX hbl (hA0 b hbl) hL ?_ s.heap [] _ trivial (fun q x h => by cases h) va_S.rf hl
  intro t lv M ht H locs ls _ hW hS hls
  refine va_forget (fun q hq => hS.2.2 q hq) ?_
  refine W.widen (k := 601024) (n := 7293000) (by omega) (by omega) ?_
  refine lv_iconst (v := 1) hx hb d_La_law_1274 (by decide) ?_
  exact lw_ret hx hb hr hlocks d_La_law_1275
-- ===== YOUR PART ENDS =====
set_option maxHeartbeats 4000000 in
theorem lw_walk (l : Launch) (hl0 : l.stackTraces = false) (b : Addr) (xs : List Int32) : MetFree l x (headSpec (Jvm.Cond.code x code maxLocals ret :: tables_1) room_1) (lw_P b xs) (fun _ _ _ _ _ => True) lw_Q := by
  refine MetFree.of_bodyS (code := code) (maxLocals := maxLocals) (ret := ret) (by decide) ?_ ?_
  · intro args s m h hn
    obtain ⟨meth, c, h1, h2, h3, h4, h5, h6, -, -⟩ := Cond.code_spec hn (atoms_spec (ws := Jvm.Cond.code x code maxLocals ret :: tables_1) h _ List.mem_cons_self)
    exact ⟨meth, c, h1, h2, h3, h4, h5, h6⟩
  · intro p e s m args below meth c s₁ B hml0 hP _
    obtain ⟨rfl, hx, hbd, hgv⟩ := hP
    obtain ⟨scr, harrAt, hlist, hof, hsmall⟩ := hx
    obtain ⟨hcb, hkn, -, -⟩ := State.arrayAt?_spec harrAt
    have hown : s.vm.findClass R_law = some m.cls := findClass_of_methodNamed B.named
    have hts0 : ∀ c ∈ (Jvm.Cond.code x code maxLocals ret :: tables_1), c.before #[Value.ref b] s = true := atoms_spec (ws := Jvm.Cond.code x code maxLocals ret :: tables_1) B.pre
    have hts : ∀ w ∈ lw_tbl, w.before #[Value.ref b] s = true := k2_hts_sels lw_privs (fun w hw => hts0 w (List.mem_cons_of_mem _ hw)) lw_privs_ok
    have hml : c.maxLocals = 7 := B.maxLocals_eq (hts0 _ List.mem_cons_self)
    have X₀ : Stand p l e room_1 s m #[Value.ref b] below meth c s₁ [] 0 0 := Stand.of_body B
    have hh0 : s₁.heap = s.heap := by rw [B.state]; rfl
    have hsz : scr.slots.size = xs.length := by rw [← Array.length_toList, hlist, List.length_map]
    have hval : ∀ j : Nat, j < xs.length → scr.slots[j]? = some (.int (xs.getD j 0)) := fun j hj => by
      rw [← Array.getElem?_toList, hlist]
      simp [hj]
    have hbl : b < s.heap.size := (Array.getElem?_eq_some_iff.mp hcb).1
    have hX : va_X b xs.length (fun j => xs.getD j 0) s s.heap := ⟨scr, hcb, hof, hkn, hsz, hval⟩
    have K : W p l e room_1 s m #[Value.ref b] below meth c s₁.heap [] 0 0 (lw_Z below #[Value.ref b] s) (entryFrame m ([Value.ref b] : List Value).toArray 7) := by
      rw [hh0]
      exact whole_start l hl0 hbd ⟨B.exec, B.bytes, B.returns, hml, hown, hts, hX, hbl, B.notSynchronized, hgv⟩
    obtain ⟨t, a1, o, b1, b2, b3⟩ := K s₁ rfl X₀
    exact ⟨t, o, a1, b1, b2, b3⟩
theorem lw_pre_spec {args : Array Value} {s : State} (h : (Jvm.Cond.and given_1 narrow_1).before args s = true) (hr : rest_1_c.before args s = true) : ∃ (b : Addr) (xs : List Int32), lw_P b xs args s := by
  have hs := flat_of_before _ h
  have hq := flat_of_before _ hr
  have hc : (Cond.count 1).before args s = true := hs _ (by decide +kernel)
  have harr : (Cond.arrayOf (.arg 0) .int).before args s = true := hs _ (by decide +kernel)
  have hle : (Cond.le (.length (.arg 0)) (.int 3585)).before args s = true := hs _ (by decide +kernel)
  have hlen : (Cond.isInt (.length (.arg 0))).before args s = true := hq _ (by decide +kernel)
  have hall : (Cond.all (.arg 0) (.isInt (.elem (.arg 0) (.index 0)))).before args s = true := hq _ (by decide +kernel)
  obtain ⟨b, xs, hb, hx⟩ := State.ints_of_pre rfl harr hlen hall
  have hsm : xs.length < 2 ^ 31 := hx.choose_spec.2.2.2
  have hev : (Term.length (.arg 0)).eval args s none [] s = some (.int xs.length.toInt32) := hx.length_eval hb
  have hv := Cond.le_ints hev (show (Term.int 3585).eval args s none [] s = some (.int 3585) from rfl)
  have hd : xs.length.toInt32 ≤ 3585 := by
    simpa [Cond.before, Cond.holds, hv] using hle
  have hN : xs.length ≤ 3585 := (Int32.ofNat_le_ofNat hsm (by decide)).mp (show Int32.ofNat xs.length ≤ Int32.ofNat 3585 from hd)
  exact ⟨b, xs, Cond.one_arg hc (show args[0]? = some (.ref b) from hb), hx, hN, h⟩
theorem lw_comes (l : Launch) (hl0 : l.stackTraces = false) : Comes l x (Jvm.Cond.code x code maxLocals ret :: tables_1) room_1 (fun tb e args s => Calls_1 tb e args s ∧ rest_1 tb e args s ∧ Pre_1 tb e args s)
    (fun _ _ args s o t => lw_Q args s o t) := by
  intro p e ha hc hk s m args below hf hfit hheap happ hpre
  obtain ⟨b, xs, hP⟩ := lw_pre_spec hpre.2.2 hpre.2.1
  obtain ⟨k, o, h1, h2, h3, hQ⟩ := lw_walk l hl0 b xs p e ha hc hk s m args below hf ((Spec.applies_iff_loose hf).mp happ).1 hP trivial
  exact ⟨k, o, h1, h2, h3, hQ⟩
theorem lw_frame {s t : State} {o : Outcome} {args : Array Value} (h : Framed s o t [] 601024 7293000) :
    Framed s o t (fieldLocs frame_1_writes args s ++ arrayLocs frame_1_arrays args s ++ staticLocs frame_1_statics s) 601024 7293000 := h
theorem lw_limb (L : Cond) (hL : ∀ (args : Array Value) (s t : State), L.after args s (.returned (some (.int 1))) t = true) :
    ArmFor flags0 classFile x code maxLocals ret World_1 tables_1 room_1 Calls_1 rest_1 Pre_1
      (fun tb e a s o t => postC L tb e a s o t ∧ Framed s o t (fieldLocs frame_1_writes a s ++ arrayLocs frame_1_arrays a s ++ staticLocs frame_1_statics s) 601024 7293000) := by
  intro l hfl0 _ _ p e ha hc hk s m args below hf hfit hheap happ hpre
  have hl0 : l.stackTraces = false := by unfold Launch.stackTraces; rw [hfl0]; decide +kernel
  obtain ⟨k, o, h1, h2, h3, rfl, hF⟩ := lw_comes l hl0 p e ha hc hk s m args below hf hfit hheap happ hpre
  exact ⟨k, _, h1, h2, h3, hL args s _, lw_frame hF⟩
theorem i_vc : Claimed_1_1 ∧ Claimed_1_2 := ⟨lw_limb limb_1_1 (fun args s t => by simp [limb_1_1, Cond.after, Cond.holds, Cond.value]), lw_limb limb_1_2 (fun args s t => Cond.after_iff.mpr (by
  first | (rw [show limb_1_2 = Cond.eq .result (.int 1) from rfl, Cond.eq_ints (x := 1) (y := 1) rfl rfl]; simp; done) | (simp [limb_1_2, Cond.value, Term.eval]; done)))⟩
