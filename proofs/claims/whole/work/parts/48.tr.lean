/-! THE TOUR, as both sides must choose it -/
def trW (s : AS) (C : List Nat) (j : Nat) : Int := sSum (fun k => s 3 (C.getD k 0) 4) j
def isCh (s : AS) (w : Nat) (dy : Int) (C : List Nat) : Prop := ∃ Lq : List Nat, Lq.Perm (List.range (s 0 0 3).toNat) ∧ Lq.Pairwise (bf (fun k => sDue (s 3 k))) ∧ C = (Lq.filter (el (s 0 0 2).toNat (s 2) (sHP s w) (s 4 w) dy (sPP s) (s 3))).take 7
abbrev sB (s : AS) (w : Nat) : List Nat → List Nat → Int → Prop := Bst (s 0 0 2).toNat (s 2) (sPP s) (sHP s w)
def sTr (s : AS) (w : Nat) (dy : Int) (m : Nat) (o : List Nat) (W : Int) : AS := sR (sR s 6 0 (fun k => ((o.getD k 0 : Nat) : Int))) 0 0 (va_up (va_up (va_up (va_up (va_up (va_up (s 0 0) 5 (w : Int)) 6 dy) 7 (m : Int)) 8 0) 9 W) 10 (sSum (fun k => s 3 (o.getD k 0) 4) m))
def Tr (s : AS) (w : Nat) (dy : Int) (s' : AS) : Prop := ∃ (C : List Nat) (m : Nat) (o : List Nat) (W : Int), isCh s w dy C ∧ m ≤ C.length ∧ sB s w (C.take m) o W ∧ (m = 0 ∨ W + trW s C m ≤ s 4 w 1) ∧ (∀ j, m < j → j ≤ C.length → ¬ ∃ o' W', sB s w (C.take j) o' W' ∧ W' + trW s C j ≤ s 4 w 1) ∧ s' = sTr s w dy m o W
theorem srt_un {d : Nat → Int} {n : Nat} {L1 L2 : List Nat} (p1 : L1.Perm (List.range n)) (s1 : L1.Pairwise (bf d)) (p2 : L2.Perm (List.range n)) (s2 : L2.Pairwise (bf d)) : L1 = L2 := by
  have l1 : L1.length = n := by rw [p1.length_eq, List.length_range]
  have l2 : L2.length = n := by rw [p2.length_eq, List.length_range]
  refine List.ext_getElem (by omega) (fun i h1 h2 => ?_)
  have a1 := bfc_at p1 s1 (List.getElem?_eq_getElem h1)
  have hm : L1[i] ∈ L2 := (p1.trans p2.symm).mem_iff.mp (List.getElem_mem h1)
  obtain ⟨j, hj, e⟩ := List.mem_iff_getElem.mp hm
  have a2 := bfc_at p2 s2 (List.getElem?_eq_getElem hj)
  rw [e, a1] at a2
  subst a2
  exact e.symm
theorem isCh_un {s : AS} {w : Nat} {dy : Int} {C1 C2 : List Nat} (h1 : isCh s w dy C1) (h2 : isCh s w dy C2) : C1 = C2 := by
  obtain ⟨L1, p1, s1, rfl⟩ := h1
  obtain ⟨L2, p2, s2, rfl⟩ := h2
  rw [srt_un p1 s1 p2 s2]
theorem Tr_un {s s1 s2 : AS} {w : Nat} {dy : Int} (h1 : Tr s w dy s1) (h2 : Tr s w dy s2) : s1 = s2 := by
  obtain ⟨C, m1, o1, W1, c1, a1, a2, a3, a4, rfl⟩ := h1
  obtain ⟨C2, m2, o2, W2, c2, b1, b2, b3, b4, rfl⟩ := h2
  obtain rfl := isCh_un c1 c2
  have e : m1 = m2 := by
    rcases Nat.lt_trichotomy m1 m2 with q | q | q
    · exact absurd ⟨o2, W2, b2, b3.resolve_left (by omega)⟩ (a4 m2 q b1)
    · exact q
    · exact absurd ⟨o1, W1, a2, a3.resolve_left (by omega)⟩ (b4 m1 q a1)
  subst e
  obtain ⟨e1, e2⟩ := Bst_un a2 b2
  rw [e1, e2]
theorem isCh_lt {s : AS} {w : Nat} {dy : Int} {C : List Nat} (h : isCh s w dy C) : C.length ≤ 7 ∧ C.Nodup ∧ ∀ k, k ∈ C → k < (s 0 0 3).toNat := by
  obtain ⟨Lq, p, -, rfl⟩ := h
  have hn : Lq.Nodup := p.nodup_iff.mpr List.nodup_range
  refine ⟨by rw [List.length_take]; omega, (hn.filter _).sublist (List.take_sublist _ _), fun k hk => ?_⟩
  have h1 := (List.mem_filter.mp (List.mem_of_mem_take hk)).1
  exact List.mem_range.mp (p.mem_iff.mp h1)
theorem okS_tr {s : AS} {np nl nt ns w m : Nat} {dy : Int} {o : List Nat} {W : Int} (h : okS s np nl nt ns) : okS (sTr s w dy m o W) np nl nt ns := h
theorem RT_tr {M' : Wm} {s : AS} {np nl nt ns to oa w ga m : Nat} {dy : Int} {C o : List Nat} {W : Int} {ge gt so2 : Nat → Option Nat} (hS : okS s np nl nt ns) (hwn : w < ns) (hge : ge w = some ga) (hdy : 0 ≤ dy ∧ dy ≤ 100000) (hC : isCh s w dy C) (hm : m ≤ C.length) (hB : sB s w (C.take m) o W) (hso : ∀ k, k < m → so2 k = gt (o.getD k 0)) (hM : M' to = some (oTo oa ga dy m 0 W (sSum (fun k => s 3 (o.getD k 0) 4) m))) : RT M' (sTr s w dy m o W) nl nt ns to oa ge gt so2 := by
  obtain ⟨⟨-, e2, e3, -⟩, -⟩ := hS
  have hol : o.length = m := by rw [hB.1.length_eq, List.length_take]; omega
  obtain ⟨c1, c2, c3⟩ := isCh_lt hC
  have enl : (s 0 0 2).toNat = nl := by omega
  have hlt : ∀ k, k < m → o.getD k 0 < nt := by
    intro k hk
    have h1 : o.getD k 0 ∈ o := gD_mem (by omega)
    have h2 := c3 _ (List.mem_of_mem_take (hB.1.mem_iff.mp h1))
    omega
  have hv := hB.2.1
  have hW := hB.2.2.1
  rw [enl] at hv hW
  have P0 : sPth (sTr s w dy m o W) w m 0 = sHP s w := rfl
  have P1 : ∀ k, k < o.length → sPth (sTr s w dy m o W) w m (k + 1) = sPP s (o.getD k 0) := by
    intro k hk
    unfold sPth
    rw [if_neg (show ¬ k + 1 = 0 by omega), if_pos (show k + 1 ≤ m by omega)]
    rfl
  have P2 : sPth (sTr s w dy m o W) w m (o.length + 1) = sHP s w := by
    unfold sPth
    rw [if_neg (show ¬ o.length + 1 = 0 by omega), if_neg (show ¬ o.length + 1 ≤ m by omega)]
    rfl
  obtain ⟨g1, g2⟩ := vld_lg o (sHP s w) (sPth (sTr s w dy m o W) w m) P0 P1 P2 hv
  rw [hol] at g1 g2
  refine Or.inr ⟨w, ga, m, 0, rfl, hwn, hge, rfl, rfl, by omega, hdy, g1, ?_, rfl, hM, fun k hk => ?_⟩
  · rw [sWs_lg]
    exact hW.trans g2
  · have := hlt k hk
    refine ⟨?_, hso k hk⟩
    show 0 ≤ ((o.getD k 0 : Nat) : Int) ∧ ((o.getD k 0 : Nat) : Int) < (nt : Int)
    omega
theorem Ms_leg {nl n : Nat} {lf pc : Nat → Nat → Int} {ph : Nat → Int} {L G : Nat → Int} (hn : n ≤ 7) (hG : Ms n n (fun k_ => sLeg (sWay nl lf ph (pc k_))) (fun k_ j_ => sLeg (sWay nl lf (pc k_) (pc j_))) L G) (h63 : L 63 = 0) : ∀ v k, (v = 7 ∨ v < n) → (k = 7 ∨ k < n) → G (v * 8 + k) = sLeg (sWay nl lf (if v = 7 then ph else pc v) (if k = 7 then ph else pc k)) := by
  obtain ⟨h1, h2, h3⟩ := hG
  intro v k hv hk
  rcases hv with rfl | hv
  · rcases hk with rfl | hk
    · rw [if_pos rfl, sWay_self]
      show G 63 = sLeg 0
      rw [h2, h63]
      rfl
    · rw [if_pos rfl, if_neg (by omega)]
      exact (h3 k hk).1
  · rcases hk with rfl | hk
    · rw [if_pos rfl, if_neg (by omega), sWay_cm]
      exact (h3 v hv).2.1
    · rw [if_neg (by omega), if_neg (by omega)]
      exact (h3 v hv).2.2 k hk
theorem tour_ok {s : AS} {np nl nt ns v n m : Nat} {dy : Int} {C : List Nat} {L G T2 : Nat → Int} (hS : okS s np nl nt ns) (hv : v < ns) (hC : isCh s v dy C) (hn : n = C.length) (hG : Ms n n (fun k_ => sLeg (sWay nl (s 2) (sHP s v) (sPP s (C.getD k_ 0)))) (fun k_ j_ => sLeg (sWay nl (s 2) (sPP s (C.getD k_ 0)) (sPP s (C.getD j_ 0)))) L G) (h63 : L 63 = 0) (hT : isT G T2 n (2 ^ n)) (hm : m = sStp T2 (fun k_ => s 3 (C.getD k_ 0) 4) (s 4 v 1) n) :
    (∀ k, k < m → ¬ sStep G T2 (fun k_ => ((C.getD k_ 0 : Nat) : Int)) n m k = -1) ∧ ∃ o, sB s v (C.take m) o (T2 ((2 ^ m - 1) * 8 + 7)) ∧ (m = 0 ∨ T2 ((2 ^ m - 1) * 8 + 7) + trW s C m ≤ s 4 v 1) ∧ (∀ j, m < j → j ≤ C.length → ¬ ∃ o' W', sB s v (C.take j) o' W' ∧ W' + trW s C j ≤ s 4 v 1) ∧ ∀ k, k < m → o.getD k 0 = C.getD (sStep G T2 (fun k_ => ((C.getD k_ 0 : Nat) : Int)) n m k).toNat 0 ∧ (sStep G T2 (fun k_ => ((C.getD k_ 0 : Nat) : Int)) n m k).toNat < n := by
  obtain ⟨⟨-, e2, e3, -⟩, ⟨-, b2, -⟩, -, okp, okl, okt, oku, -⟩ := hS
  have enl : (s 0 0 2).toNat = nl := by omega
  obtain ⟨c1, c2, c3⟩ := isCh_lt hC
  have hLb : inB G := hG.1
  have hleg := Ms_leg (pc := fun k => sPP s (C.getD k 0)) (by omega) hG h63
  have hP : ∀ q, (q = 7 ∨ q < n) → okP ((fun q => if q = 7 then sHP s v else sPP s (C.getD q 0)) q) := by
    intro q hq
    dsimp only
    split
    · exact okp _ (by have := oku v hv; omega)
    · have h1 : C.getD q 0 ∈ C := gD_mem (by omega)
      have h2 := c3 _ h1
      exact okp _ (by have := okt (C.getD q 0) (by omega); omega)
  have hk : ∀ k, k < n → (fun q => if q = 7 then sHP s v else sPP s (C.getD q 0)) k = sPP s (C.getD k 0) := fun k hk => if_neg (by omega)
  have hm2 : m ≤ n := by rw [hm]; exact sStp_le n
  obtain ⟨q1, q2⟩ := sStp_ok (T := T2) (wk := fun k_ => s 3 (C.getD k_ 0) 4) (sec := s 4 v 1) n
  rw [← hm] at q1 q2
  have hf : T2 ((2 ^ m - 1) * 8 + 7) < 1000000 := by
    rcases q1 with q1 | q1
    · rw [q1]
      have h1 := (hT 0 (Nat.pow_pos (by decide))).1
      have h2 : T2 ((2 ^ 0 - 1) * 8 + 7) = G 63 := h1
      rw [h2, hG.2.1, h63]
      decide
    · exact q1.1
  have hw := fun k hk => dp_hw (num := fun k_ => ((C.getD k_ 0 : Nat) : Int)) (by omega) hLb hT hm2 hf k hk
  obtain ⟨o, r1, r2, r3⟩ := dp_best (ph := sHP s v) (pp := sPP s) (by omega) hn.symm c2 hLb hT okl hP (if_pos rfl) hk hleg hm2 hf
  refine ⟨hw, o, by unfold sB; rw [enl]; exact r1, q1.imp_right (fun h => h.2), ?_, fun k hk => ⟨r3 k hk, ?_⟩⟩
  · rintro j j1 j2 ⟨o', W', j3, j4⟩
    unfold sB at j3
    rw [enl] at j3
    obtain ⟨j5, j6⟩ := dp_only (ph := sHP s v) (pp := sPP s) (by omega) hn.symm c2 hLb hT okl hP (if_pos rfl) hk hleg (show j ≤ n by omega) j3
    exact q2 j j1 (by omega) ⟨j6, by rw [← j5]; exact j4⟩
  · have h1 := hw k hk
    have h2 := sNx_b (L := G) (T := T2) (num := fun k_ => ((C.getD k_ 0 : Nat) : Int)) (S := (sSv G T2 (fun k_ => ((C.getD k_ 0 : Nat) : Int)) n m k).1) (v := (sSv G T2 (fun k_ => ((C.getD k_ 0 : Nat) : Int)) n m k).2) n
    have h3 : -1 ≤ sStep G T2 (fun k_ => ((C.getD k_ 0 : Nat) : Int)) n m k ∧ sStep G T2 (fun k_ => ((C.getD k_ 0 : Nat) : Int)) n m k < n := ⟨h2.1, h2.2.1⟩
    omega
theorem RT_to2 {M : Wm} {s : AS} {nl nt ns to oa : Nat} {ge gt so : Nat → Option Nat} (h : RT M s nl nt ns to oa ge gt so) : ∃ (go : Option Nat) (dy cn dn wk wo : Int), M to = some (.inr (6, [.ref oa, va_rf go, .int (iI dy), .int (iI cn), .int (iI dn), .int (iI wk), .int (iI wo)])) := by
  rcases h with ⟨-, -, d0, h⟩ | ⟨w, ga, cn, dn, -, -, -, -, -, -, -, -, -, -, h, -⟩
  · exact ⟨none, _, _, _, _, _, h⟩
  · exact ⟨some ga, _, _, _, _, _, h⟩
