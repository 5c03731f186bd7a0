/-! THE STATE AFTER A CALL -/
def sR (s : AS) (a i : Nat) (f : Nat → Int) : AS := va_up s a (va_up (s a) i f)
def sU (s : AS) (a i k : Nat) (v : Int) : AS := sR s a i (va_up (s a i) k v)
theorem sR_s {s : AS} {a i : Nat} {f : Nat → Int} : sR s a i f a i = f := by
  unfold sR va_up
  rw [if_pos rfl, if_pos rfl]
theorem sR_n {s : AS} {a i j : Nat} {f : Nat → Int} (h : j ≠ i) : sR s a i f a j = s a j := by
  unfold sR va_up
  rw [if_pos rfl, if_neg h]
theorem wU_s {α : Type} {f : Nat → α} {k : Nat} {v : α} : va_up f k v k = v := if_pos rfl
theorem wU_n {α : Type} {f : Nat → α} {k j : Nat} {v : α} (h : j ≠ k) : va_up f k v j = f j := if_neg h
/-- no tour is under way any more -/
def sEnd (s : AS) : AS := sR s 0 0 (va_up (va_up (va_up (va_up (va_up (s 0 0) 5 (-1)) 7 0) 8 0) 9 0) 10 0)
def r3 (a b c : Int) : Nat → Int
  | 0 => a
  | 1 => b
  | _ => c
def r6 (a b c d e f : Int) : Nat → Int
  | 0 => a
  | 1 => b
  | 2 => c
  | 3 => d
  | 4 => e
  | _ => f
def r10 (a b c d e q : Int) : Nat → Int
  | 0 => a
  | 1 => b
  | 2 => c
  | 3 => d
  | 4 => e
  | 5 => 0
  | 6 => 0
  | 7 => 0
  | 8 => -1
  | _ => q
def sPlace (s : AS) (f x y : Int) : AS := sR (sU (sEnd s) 0 0 1 (s 0 0 1 + 1)) 1 (s 0 0 1).toNat (r3 f x y)
def sLiftN (s : AS) (a b c d e f : Int) : AS := sR (sU (sEnd s) 0 0 2 (s 0 0 2 + 1)) 2 (s 0 0 2).toNat (r6 a b c d e f)
def sPart (s : AS) (q a b c d e : Int) : AS := sR (sU s 0 0 3 (s 0 0 3 + 1)) 3 (s 0 0 3).toNat (r10 a b c d e q)
def sPerson (s : AS) (a h c : Int) : AS := sR (sU (sEnd s) 0 0 4 (s 0 0 4 + 1)) 4 (s 0 0 4).toNat (r3 a c h)
def sStk (s : AS) (k : Nat) (n : Int) : AS := sU (sU s 5 0 k (s 5 0 k + n)) 7 0 0 (s 7 0 0 + 1)
def sUse (s : AS) (p : Nat) (d n : Int) : AS := sR (sU s 7 0 0 (s 7 0 0 + 1)) 3 p (va_up (va_up (va_up (s 3 p) 6 (s 3 p 6 + n)) 7 d) 8 (if s 3 p 8 = -1 ∧ s 3 p 3 ≤ s 3 p 6 + n then d else s 3 p 8))
def sDon (s : AS) (p : Nat) : AS := sR (sU (sU s 5 0 (s 3 p 1).toNat (s 5 0 (s 3 p 1).toNat - 1)) 0 0 8 (s 0 0 8 + 1)) 3 p (va_up (va_up (va_up (va_up (s 3 p) 5 (s 0 0 6)) 6 0) 7 (s 0 0 6)) 8 (-1))
theorem okS_end {s : AS} {np nl nt ns : Nat} (h : okS s np nl nt ns) : okS (sEnd s) np nl nt ns := h
theorem okS_place {s : AS} {np nl nt ns : Nat} {f x y : Int} (h : okS s np nl nt ns) (hn : np < 30) (hp : okP (r3 f x y)) : okS (sPlace s f x y) (np + 1) nl nt ns := by
  obtain ⟨⟨e1, e2, e3, e4⟩, ⟨b1, b2, b3, b4⟩, b5, okp, okl, okt, oku, oksp, okg, oku6⟩ := h
  have en : (s 0 0 1).toNat = np := by omega
  refine ⟨⟨by show s 0 0 1 + 1 = _; omega, e2, e3, e4⟩, ⟨by omega, b2, b3, b4⟩, b5, fun k hk => ?_, okl, fun k hk => ?_, fun k hk => ?_, oksp, okg, oku6⟩
  · unfold sPlace
    rw [en]
    by_cases e : k = np
    · subst e; rw [sR_s]; exact hp
    · rw [sR_n e]; exact okp k (by omega)
  · obtain ⟨h1, h2, h3⟩ := okt k hk
    exact ⟨h1, h2, by show s 3 k 9 < _; omega⟩
  · obtain ⟨h1, h2, h3⟩ := oku k hk
    exact ⟨h1, h2, by show s 4 k 2 < _; omega⟩
theorem okS_lift {s : AS} {np nl nt ns : Nat} {a b c d e f : Int} (h : okS s np nl nt ns) (hn : nl < 6) (hp : okL (r6 a b c d e f)) : okS (sLiftN s a b c d e f) np (nl + 1) nt ns := by
  obtain ⟨⟨e1, e2, e3, e4⟩, ⟨b1, b2, b3, b4⟩, b5, okp, okl, okt, oku, oksp, okg, oku6⟩ := h
  have en : (s 0 0 2).toNat = nl := by omega
  refine ⟨⟨e1, by show s 0 0 2 + 1 = _; omega, e3, e4⟩, ⟨b1, by omega, b3, b4⟩, b5, okp, fun k hk => ?_, okt, oku, oksp, okg, oku6⟩
  unfold sLiftN
  rw [en]
  by_cases e : k = nl
  · subst e; rw [sR_s]; exact hp
  · rw [sR_n e]; exact okl k (by omega)
theorem okS_part {s : AS} {np nl nt ns : Nat} {q a b c d e : Int} (h : okS s np nl nt ns) (hn : nt < 40) (hq : 0 ≤ q ∧ q < np) (hp : okT (r10 a b c d e q)) : okS (sPart s q a b c d e) np nl (nt + 1) ns := by
  obtain ⟨⟨e1, e2, e3, e4⟩, ⟨b1, b2, b3, b4⟩, b5, okp, okl, okt, oku, oksp, okg, oku6⟩ := h
  have en : (s 0 0 3).toNat = nt := by omega
  refine ⟨⟨e1, e2, by show s 0 0 3 + 1 = _; omega, e4⟩, ⟨b1, b2, by omega, b4⟩, b5, okp, okl, fun k hk => ?_, oku, oksp, okg, fun k hk => ?_⟩
  · unfold sPart
    rw [en]
    by_cases e : k = nt
    · subst e; rw [sR_s]; exact ⟨hp, hq⟩
    · rw [sR_n e]; exact okt k (by omega)
  · show sPart s q a b c d e 3 k 6 ≤ 1000 * s 7 0 0
    unfold sPart
    rw [en]
    by_cases e : k = nt
    · subst e; rw [sR_s]; show (0 : Int) ≤ _; omega
    · rw [sR_n e]; exact oku6 k (by omega)
theorem okS_person {s : AS} {np nl nt ns : Nat} {a h c : Int} (h0 : okS s np nl nt ns) (hn : ns < 8) (hq : 0 ≤ h ∧ h < np) (hp : okU (r3 a c h)) : okS (sPerson s a h c) np nl nt (ns + 1) := by
  obtain ⟨⟨e1, e2, e3, e4⟩, ⟨b1, b2, b3, b4⟩, b5, okp, okl, okt, oku, oksp, okg, oku6⟩ := h0
  have en : (s 0 0 4).toNat = ns := by omega
  refine ⟨⟨e1, e2, e3, by show s 0 0 4 + 1 = _; omega⟩, ⟨b1, b2, b3, by omega⟩, b5, okp, okl, okt, fun k hk => ?_, oksp, okg, oku6⟩
  unfold sPerson
  rw [en]
  by_cases e : k = ns
  · subst e; rw [sR_s]; exact ⟨hp, hq⟩
  · rw [sR_n e]; exact oku k (by omega)
theorem okS_stk {s : AS} {np nl nt ns : Nat} {k : Nat} {n : Int} (h : okS s np nl nt ns) (hg : s 7 0 0 < 600) (hn : 1 ≤ n ∧ n ≤ 1000) : okS (sStk s k n) np nl nt ns := by
  obtain ⟨e, b, b5, okp, okl, okt, oku, oksp, okg, oku6⟩ := h
  refine ⟨e, b, b5, okp, okl, okt, oku, fun j => ?_, ⟨by show 0 ≤ s 7 0 0 + 1; omega, by show s 7 0 0 + 1 ≤ 600; omega⟩, fun j hj => ?_⟩
  · show 0 ≤ va_up (s 5 0) k (s 5 0 k + n) j ∧ va_up (s 5 0) k (s 5 0 k + n) j ≤ 1000 * (s 7 0 0 + 1)
    have h1 := oksp j
    have h2 := oksp k
    by_cases e : j = k
    · subst e; rw [iu_s]; omega
    · rw [iu_n e]; omega
  · have := oku6 j hj
    show s 3 j 6 ≤ 1000 * (s 7 0 0 + 1)
    omega
theorem okS_use {s : AS} {np nl nt ns : Nat} {p : Nat} {d n : Int} (h : okS s np nl nt ns) (hg : s 7 0 0 < 600) (hd : 0 ≤ d ∧ d ≤ 100000) (hn : 1 ≤ n ∧ n ≤ 1000) (hp : p < nt) : okS (sUse s p d n) np nl nt ns := by
  obtain ⟨e, b, b5, okp, okl, okt, oku, oksp, okg, oku6⟩ := h
  refine ⟨e, b, b5, okp, okl, fun k hk => ?_, oku, fun j => ?_, ⟨by show 0 ≤ s 7 0 0 + 1; omega, by show s 7 0 0 + 1 ≤ 600; omega⟩, fun k hk => ?_⟩
  · unfold sUse
    by_cases e : k = p
    · subst e
      rw [sR_s]
      obtain ⟨h1, h2, h3⟩ := okt k hk
      have h4 := oku6 k hk
      unfold okT at h1
      refine ⟨?_, h2, h3⟩
      show (0 ≤ s 3 k 0 ∧ s 3 k 0 ≤ 7) ∧ (0 ≤ s 3 k 1 ∧ s 3 k 1 ≤ 4) ∧ (1 ≤ s 3 k 2 ∧ s 3 k 2 ≤ 400) ∧ (1 ≤ s 3 k 3 ∧ s 3 k 3 ≤ 10000) ∧ (1 ≤ s 3 k 4 ∧ s 3 k 4 ≤ 7200) ∧ (0 ≤ s 3 k 5 ∧ s 3 k 5 ≤ 100000) ∧ (0 ≤ s 3 k 6 + n ∧ s 3 k 6 + n ≤ 1000000) ∧ (0 ≤ d ∧ d ≤ 100000) ∧ (-1 ≤ (if s 3 k 8 = -1 ∧ s 3 k 3 ≤ s 3 k 6 + n then d else s 3 k 8) ∧ (if s 3 k 8 = -1 ∧ s 3 k 3 ≤ s 3 k 6 + n then d else s 3 k 8) ≤ 100000)
      split <;> omega
    · rw [sR_n e]; exact okt k hk
  · have := oksp j
    show 0 ≤ s 5 0 j ∧ s 5 0 j ≤ 1000 * (s 7 0 0 + 1)
    omega
  · show sUse s p d n 3 k 6 ≤ 1000 * (s 7 0 0 + 1)
    have h4 := oku6 k hk
    unfold sUse
    by_cases e : k = p
    · subst e
      rw [sR_s]
      show s 3 k 6 + n ≤ _
      omega
    · rw [sR_n e]
      show s 3 k 6 ≤ _
      omega
theorem okS_don {s : AS} {np nl nt ns : Nat} {p : Nat} (h : okS s np nl nt ns) (hd : 0 ≤ s 0 0 6 ∧ s 0 0 6 ≤ 100000) (hp : p < nt) (hs : 0 < s 5 0 (s 3 p 1).toNat) : okS (sDon s p) np nl nt ns := by
  obtain ⟨e, b, b5, okp, okl, okt, oku, oksp, okg, oku6⟩ := h
  refine ⟨e, b, b5, okp, okl, fun k hk => ?_, oku, fun j => ?_, okg, fun k hk => ?_⟩
  · unfold sDon
    by_cases e : k = p
    · subst e
      rw [sR_s]
      obtain ⟨h1, h2, h3⟩ := okt k hk
      unfold okT at h1
      refine ⟨?_, h2, h3⟩
      show (0 ≤ s 3 k 0 ∧ s 3 k 0 ≤ 7) ∧ (0 ≤ s 3 k 1 ∧ s 3 k 1 ≤ 4) ∧ (1 ≤ s 3 k 2 ∧ s 3 k 2 ≤ 400) ∧ (1 ≤ s 3 k 3 ∧ s 3 k 3 ≤ 10000) ∧ (1 ≤ s 3 k 4 ∧ s 3 k 4 ≤ 7200) ∧ (0 ≤ s 0 0 6 ∧ s 0 0 6 ≤ 100000) ∧ (0 ≤ (0 : Int) ∧ (0 : Int) ≤ 1000000) ∧ (0 ≤ s 0 0 6 ∧ s 0 0 6 ≤ 100000) ∧ (-1 ≤ (-1 : Int) ∧ (-1 : Int) ≤ 100000)
      omega
    · rw [sR_n e]; exact okt k hk
  · show 0 ≤ va_up (s 5 0) (s 3 p 1).toNat (s 5 0 (s 3 p 1).toNat - 1) j ∧ va_up (s 5 0) (s 3 p 1).toNat (s 5 0 (s 3 p 1).toNat - 1) j ≤ 1000 * s 7 0 0
    have h1 := oksp j
    by_cases e : j = (s 3 p 1).toNat
    · subst e; rw [iu_s]; omega
    · rw [iu_n e]; omega
  · show sDon s p 3 k 6 ≤ 1000 * s 7 0 0
    have h4 := oku6 k hk
    unfold sDon
    by_cases e : k = p
    · subst e
      rw [sR_s]
      show (0 : Int) ≤ _
      omega
    · rw [sR_n e]
      exact h4
/-- two states agree in all that a tour's walks and work are made of -/
def Ag (s s' : AS) (nt : Nat) : Prop := s' 1 = s 1 ∧ s' 2 = s 2 ∧ s' 4 = s 4 ∧ s' 6 = s 6 ∧ ∀ k, k < nt → s' 3 k 9 = s 3 k 9 ∧ s' 3 k 4 = s 3 k 4
theorem Ag_pth {s s' : AS} {nt w cn : Nat} (h : Ag s s' nt) (hq : ∀ k, k < cn → 0 ≤ s 6 0 k ∧ s 6 0 k < nt) (k : Nat) : sPth s' w cn k = sPth s w cn k := by
  obtain ⟨h1, h2, h4, h6, h3⟩ := h
  unfold sPth sHP sPP
  rw [h1, h4, h6]
  by_cases e0 : k = 0
  · rw [if_pos e0, if_pos e0]
  · rw [if_neg e0, if_neg e0]
    by_cases e1 : k ≤ cn
    · rw [if_pos e1, if_pos e1]
      have := hq (k - 1) (by omega)
      rw [(h3 (s 6 0 (k - 1)).toNat (by omega)).1]
    · rw [if_neg e1, if_neg e1]
theorem Ag_ws {s s' : AS} {nl nt w cn : Nat} (h : Ag s s' nt) (hq : ∀ k, k < cn → 0 ≤ s 6 0 k ∧ s 6 0 k < nt) (k : Nat) : sWs s' nl w cn k = sWs s nl w cn k := by
  induction k with
  | zero => rfl
  | succ k ih =>
    unfold sWs
    rw [ih, Ag_pth h hq, Ag_pth h hq, h.2.1]
theorem sSum_cg {f g : Nat → Int} {n : Nat} (h : ∀ k, k < n → f k = g k) : sSum f n = sSum g n := by
  induction n with
  | zero => rfl
  | succ n ih =>
    unfold sSum
    rw [ih (fun k hk => h k (by omega)), h n (by omega)]
theorem RT_ag {M M' : Wm} {s s' : AS} {nl nt nt' ns to oa : Nat} {ge gt gt' so : Nat → Option Nat} {fs : List Value} (h : RT M s nl nt ns to oa ge gt so) (hA : Ag s s' nt) (h0 : s' 0 0 5 = s 0 0 5 ∧ s' 0 0 6 = s 0 0 6 ∧ s' 0 0 7 = s 0 0 7 ∧ s' 0 0 8 = s 0 0 8 ∧ s' 0 0 9 = s 0 0 9 ∧ s' 0 0 10 = s 0 0 10) (hn : nt ≤ nt') (hg : ∀ k, k < nt → gt' k = gt k) (g0 : M to = some (.inr (6, fs))) (g1 : M' to = some (.inr (6, fs))) : RT M' s' nl nt' ns to oa ge gt' so := by
  have e : M' to = M to := g1.trans g0.symm
  obtain ⟨z5, z6, z7, z8, z9, z10⟩ := h0
  rcases h with ⟨a1, a2, d0, h⟩ | ⟨w, ga, cn, dn, a1, a2, a3, a4, a5, a6, a7, a8, a9, a10, h, a11⟩
  · exact Or.inl ⟨by omega, by omega, d0, e.trans h⟩
  · have hq : ∀ k, k < cn → 0 ≤ s 6 0 k ∧ s 6 0 k < nt := fun k hk => (a11 k hk).1
    refine Or.inr ⟨w, ga, cn, dn, by omega, a2, a3, by omega, by omega, a6, by omega, fun k hk => ?_, ?_, ?_, ?_, fun k hk => ?_⟩
    · rw [Ag_pth hA hq, Ag_pth hA hq, hA.2.1]; exact a8 k hk
    · rw [Ag_ws hA hq, z9]; exact a9
    · rw [z10, a10, hA.2.2.2.1]
      exact sSum_cg (fun k hk => ((hA.2.2.2.2 _ (by have := hq k hk; omega)).2).symm)
    · rw [z6, z9, z10]; exact e.trans h
    · rw [hA.2.2.2.1]
      obtain ⟨q1, q2⟩ := a11 k hk
      exact ⟨by omega, by rw [hg _ (by omega)]; exact q2⟩
/-! the pools after a call -/
abbrev kO (M M' : Wm) : Prop := ∀ (b ci : Nat) (fs : List Value), M b = some (.inr (ci, fs)) → (ci = 1 ∨ ci = 2 ∨ ci = 3 ∨ ci = 4) → M' b = some (.inr (ci, fs))
theorem Pools_end {M : Wm} {s : AS} {np nl nt ns : Nat} {gp gl gt ge : Nat → Option Nat} (h : Pools M s np nl nt ns gp gl gt ge) : Pools M (sEnd s) np nl nt ns gp gl gt ge := h
theorem Pools_place {M : Wm} {s : AS} {np nl nt ns q : Nat} {gp gl gt ge : Nat → Option Nat} {f x y : Int} (hS : okS s np nl nt ns) (h : Pools M s np nl nt ns gp gl gt ge) (hq : M q = some (oPl (r3 f x y))) : Pools M (sPlace s f x y) (np + 1) nl nt ns (va_up gp np (some q)) gl gt ge := by
  obtain ⟨⟨e1, -⟩, -, -, -, -, okt, oku, -⟩ := hS
  have en : (s 0 0 1).toNat = np := by omega
  obtain ⟨h1, h2, h3, h4⟩ := h
  refine ⟨fun k hk => ?_, h2, fun k hk => ?_, fun k hk => ?_⟩
  · unfold sPlace
    rw [en]
    by_cases e : k = np
    · subst e; exact ⟨q, wU_s, by rw [sR_s]; exact hq⟩
    · obtain ⟨a, g1, g2⟩ := h1 k (by omega)
      exact ⟨a, (wU_n e).trans g1, by rw [sR_n e]; exact g2⟩
  · obtain ⟨a, pa, g1, g2, g3⟩ := h3 k hk
    have := okt k hk
    exact ⟨a, pa, g1, g2, (wU_n (by show (s 3 k 9).toNat ≠ np; omega)).trans g3⟩
  · obtain ⟨a, pa, g1, g2, g3⟩ := h4 k hk
    have := oku k hk
    exact ⟨a, pa, g1, g2, (wU_n (by show (s 4 k 2).toNat ≠ np; omega)).trans g3⟩
theorem Pools_lift {M : Wm} {s : AS} {np nl nt ns q : Nat} {gp gl gt ge : Nat → Option Nat} {a b c d e f : Int} (hS : okS s np nl nt ns) (h : Pools M s np nl nt ns gp gl gt ge) (hq : M q = some (oLi (r6 a b c d e f))) : Pools M (sLiftN s a b c d e f) np (nl + 1) nt ns gp (va_up gl nl (some q)) gt ge := by
  obtain ⟨⟨-, e2, -⟩, -⟩ := hS
  have en : (s 0 0 2).toNat = nl := by omega
  obtain ⟨h1, h2, h3, h4⟩ := h
  refine ⟨h1, fun k hk => ?_, h3, h4⟩
  unfold sLiftN
  rw [en]
  by_cases e : k = nl
  · subst e; exact ⟨q, wU_s, by rw [sR_s]; exact hq⟩
  · obtain ⟨a, g1, g2⟩ := h2 k (by omega)
    exact ⟨a, (wU_n e).trans g1, by rw [sR_n e]; exact g2⟩
theorem Pools_part {M : Wm} {s : AS} {np nl nt ns q pa : Nat} {gp gl gt ge : Nat → Option Nat} {z a b c d e : Int} (hS : okS s np nl nt ns) (h : Pools M s np nl nt ns gp gl gt ge) (hq : M q = some (oPt (nt : Int) pa (r10 a b c d e z))) (hp : gp z.toNat = some pa) : Pools M (sPart s z a b c d e) np nl (nt + 1) ns gp gl (va_up gt nt (some q)) ge := by
  obtain ⟨⟨-, -, e3, -⟩, -⟩ := hS
  have en : (s 0 0 3).toNat = nt := by omega
  obtain ⟨h1, h2, h3, h4⟩ := h
  refine ⟨h1, h2, fun k hk => ?_, h4⟩
  unfold sPart
  rw [en]
  by_cases e : k = nt
  · subst e; exact ⟨q, pa, wU_s, by rw [sR_s]; exact hq, by rw [sR_s]; exact hp⟩
  · obtain ⟨a, pa, g1, g2, g3⟩ := h3 k (by omega)
    exact ⟨a, pa, (wU_n e).trans g1, by rw [sR_n e]; exact g2, by rw [sR_n e]; exact g3⟩
theorem Pools_person {M : Wm} {s : AS} {np nl nt ns q ha : Nat} {gp gl gt ge : Nat → Option Nat} {a h0 c : Int} (hS : okS s np nl nt ns) (h : Pools M s np nl nt ns gp gl gt ge) (hq : M q = some (oPe (ns : Int) ha (r3 a c h0))) (hp : gp h0.toNat = some ha) : Pools M (sPerson s a h0 c) np nl nt (ns + 1) gp gl gt (va_up ge ns (some q)) := by
  obtain ⟨⟨-, -, -, e4⟩, -⟩ := hS
  have en : (s 0 0 4).toNat = ns := by omega
  obtain ⟨h1, h2, h3, h4⟩ := h
  refine ⟨h1, h2, h3, fun k hk => ?_⟩
  unfold sPerson
  rw [en]
  by_cases e : k = ns
  · subst e; exact ⟨q, ha, wU_s, by rw [sR_s]; exact hq, by rw [sR_s]; exact hp⟩
  · obtain ⟨a, pa, g1, g2, g3⟩ := h4 k (by omega)
    exact ⟨a, pa, (wU_n e).trans g1, by rw [sR_n e]; exact g2, by rw [sR_n e]; exact g3⟩
/-- one part's numbers are written, its number and place stay -/
theorem Pools_pt {M : Wm} {s s' : AS} {np nl nt ns a p pa : Nat} {gp gl gt ge : Nat → Option Nat} {t : Nat → Int} (h : Pools M s np nl nt ns gp gl gt ge) (hn4 : nt ≤ 40) (hp : p < nt) (ha : gt p = some a) (hc : M a = some (oPt (p : Int) pa (s 3 p))) (e1 : s' 1 = s 1) (e2 : s' 2 = s 2) (e4 : s' 4 = s 4) (e3 : s' 3 = va_up (s 3) p t) (e9 : t 9 = s 3 p 9) : Pools (va_up M a (some (oPt (p : Int) pa t))) s' np nl nt ns gp gl gt ge := by
  obtain ⟨h1, h2, h3, h4⟩ := h
  have nt4 : ∀ (b ci : Nat) (fs : List Value), M b = some (.inr (ci, fs)) → ci ≠ 2 → va_up M a (some (oPt (p : Int) pa t)) b = some (.inr (ci, fs)) := by
    intro b ci fs hb hci
    refine (wd_up_n ?_).trans hb
    intro q
    rw [q, hc] at hb
    cases hb
    exact hci rfl
  unfold Pools
  rw [e1, e2, e4, e3]
  refine ⟨fun k hk => ?_, fun k hk => ?_, fun k hk => ?_, fun k hk => ?_⟩
  · obtain ⟨b, g1, g2⟩ := h1 k hk
    exact ⟨b, g1, nt4 _ _ _ g2 (by decide)⟩
  · obtain ⟨b, g1, g2⟩ := h2 k hk
    exact ⟨b, g1, nt4 _ _ _ g2 (by decide)⟩
  · obtain ⟨b, pb, g1, g2, g3⟩ := h3 k hk
    by_cases e : k = p
    · subst e
      rw [ha] at g1
      cases g1
      rw [hc] at g2
      cases g2
      rw [wU_s]
      exact ⟨a, pa, ha, wd_up_s, by rw [e9]; exact g3⟩
    · rw [wU_n e]
      refine ⟨b, pb, g1, (wd_up_n ?_).trans g2, g3⟩
      intro q
      rw [q, hc] at g2
      have h9 := congrArg (fun v : va_E => match v with | .inr (_, .int z :: _) => z | _ => 0) (Option.some.inj g2)
      have h8 : iI (p : Int) = iI (k : Int) := h9
      have b1 : (p : Int) = (k : Int) := iI_inj h8 (by omega) (by omega)
      omega
  · obtain ⟨b, pb, g1, g2, g3⟩ := h4 k hk
    exact ⟨b, pb, g1, nt4 _ _ _ g2 (by decide), g3⟩
theorem Pools_cg {M : Wm} {s s' : AS} {np nl nt ns : Nat} {gp gl gt ge : Nat → Option Nat} (h : Pools M s np nl nt ns gp gl gt ge) (e1 : s' 1 = s 1) (e2 : s' 2 = s 2) (e3 : s' 3 = s 3) (e4 : s' 4 = s 4) : Pools M s' np nl nt ns gp gl gt ge := by
  unfold Pools
  rw [e1, e2, e3, e4]
  exact h
theorem Ag_use {s : AS} {nt p : Nat} {d n : Int} : Ag s (sUse s p d n) nt := by
  refine ⟨rfl, rfl, rfl, rfl, fun k _ => ?_⟩
  unfold sUse
  by_cases e : k = p
  · subst e; rw [sR_s]; exact ⟨rfl, rfl⟩
  · rw [sR_n e]; exact ⟨rfl, rfl⟩
theorem Ag_don {s : AS} {nt p : Nat} : Ag s (sDon s p) nt := by
  refine ⟨rfl, rfl, rfl, rfl, fun k _ => ?_⟩
  unfold sDon
  by_cases e : k = p
  · subst e; rw [sR_s]; exact ⟨rfl, rfl⟩
  · rw [sR_n e]; exact ⟨rfl, rfl⟩
theorem Ag_part {s : AS} {nt : Nat} {q a b c d e : Int} (h : s 0 0 3 = (nt : Int)) : Ag s (sPart s q a b c d e) nt := by
  refine ⟨rfl, rfl, rfl, rfl, fun k hk => ?_⟩
  unfold sPart
  rw [sR_n (by omega)]
  exact ⟨rfl, rfl⟩
theorem RT_don {M M' : Wm} {s : AS} {nl nt ns to oa w ga cn dn p : Nat} {ge gt so : Nat → Option Nat} (hw5 : s 0 0 5 = (w : Int)) (hwn : w < ns) (hge : ge w = some ga) (c7 : s 0 0 7 = (cn : Int)) (c8 : s 0 0 8 = (dn : Int)) (hcd : dn ≤ cn ∧ cn ≤ 20) (hlt : dn < cn) (h6 : 0 ≤ s 0 0 6 ∧ s 0 0 6 ≤ 100000) (hlegs : ∀ k, k ≤ cn → ¬ sWay nl (s 2) (sPth s w cn k) (sPth s w cn (k + 1)) = -1) (c9 : s 0 0 9 = sWs s nl w cn (cn + 1)) (c10 : s 0 0 10 = sSum (fun k => s 3 (s 6 0 k).toNat 4) cn) (hso : ∀ k, k < cn → (0 ≤ s 6 0 k ∧ s 6 0 k < nt) ∧ so k = gt (s 6 0 k).toNat) (hM : M' to = some (oTo oa ga (s 0 0 6) cn (dn + 1) (s 0 0 9) (s 0 0 10))) : RT M' (sDon s p) nl nt ns to oa ge gt so := by
  have hq : ∀ k, k < cn → 0 ≤ s 6 0 k ∧ s 6 0 k < nt := fun k hk => (hso k hk).1
  have hA : Ag s (sDon s p) nt := Ag_don
  refine Or.inr ⟨w, ga, cn, dn + 1, hw5, hwn, hge, c7, by show s 0 0 8 + 1 = _; omega, by omega, h6, fun k hk => ?_, ?_, ?_, hM, hso⟩
  · rw [Ag_pth hA hq, Ag_pth hA hq]; exact hlegs k hk
  · rw [Ag_ws hA hq]; exact c9
  · exact c10.trans (sSum_cg (fun k hk => ((hA.2.2.2.2 _ (by have := hq k hk; omega)).2).symm))
theorem okP_r3 {f x y : Int} (h : (0 ≤ f ∧ f ≤ 30) ∧ (0 ≤ x ∧ x ≤ 100) ∧ (0 ≤ y ∧ y ≤ 100)) : okP (r3 f x y) := h
theorem okL_r6 {a b c d e f : Int} (h : (0 ≤ a ∧ a ≤ 100) ∧ (0 ≤ b ∧ b ≤ 100) ∧ (0 ≤ c ∧ c ≤ 30) ∧ (0 ≤ d ∧ d ≤ 30) ∧ (0 ≤ e ∧ e ≤ 100) ∧ (0 ≤ f ∧ f ≤ 100)) : okL (r6 a b c d e f) := h
theorem okT_r10 {a b c d e q : Int} (h : (0 ≤ a ∧ a ≤ 7) ∧ (0 ≤ b ∧ b ≤ 4) ∧ (1 ≤ c ∧ c ≤ 400) ∧ (1 ≤ d ∧ d ≤ 10000) ∧ (1 ≤ e ∧ e ≤ 7200)) : okT (r10 a b c d e q) := by
  show (0 ≤ a ∧ a ≤ 7) ∧ (0 ≤ b ∧ b ≤ 4) ∧ (1 ≤ c ∧ c ≤ 400) ∧ (1 ≤ d ∧ d ≤ 10000) ∧ (1 ≤ e ∧ e ≤ 7200) ∧ (0 ≤ (0 : Int) ∧ (0 : Int) ≤ 100000) ∧ (0 ≤ (0 : Int) ∧ (0 : Int) ≤ 1000000) ∧ (0 ≤ (0 : Int) ∧ (0 : Int) ≤ 100000) ∧ (-1 ≤ (-1 : Int) ∧ (-1 : Int) ≤ 100000)
  omega
theorem okU_r3 {a h c : Int} (h0 : (0 ≤ a ∧ a ≤ 255) ∧ (0 ≤ c ∧ c ≤ 100000)) : okU (r3 a c h) := h0
