/-! THE MODEL and the state -/
/-- where a walk by the stops sq is, behind k legs: a place's number -/
def hN (s : AS) (h n : Nat) (sq : Nat → Nat) (k : Nat) : Nat := if k = 0 then h else if k ≤ n then (s 3 (sq (k - 1)) 9).toNat else h
theorem hN_0 {s : AS} {h n : Nat} {sq : Nat → Nat} : hN s h n sq 0 = h := if_pos rfl
theorem hN_s {s : AS} {h n k : Nat} {sq : Nat → Nat} (hk : k < n) : hN s h n sq (k + 1) = (s 3 (sq k) 9).toNat := by
  unfold hN
  rw [if_neg (show ¬ k + 1 = 0 by omega), if_pos (show k + 1 ≤ n by omega), Nat.add_sub_cancel]
theorem hN_e {s : AS} {h n k : Nat} {sq : Nat → Nat} (hk : n ≤ k) : hN s h n sq (k + 1) = h := by
  unfold hN
  rw [if_neg (show ¬ k + 1 = 0 by omega), if_neg (show ¬ k + 1 ≤ n by omega)]
theorem hN_lt {s : AS} {np nl nt ns h n k : Nat} {sq : Nat → Nat} (hS : okS s np nl nt ns) (hh : h < np) (hq : ∀ k, k < n → sq k < nt) : hN s h n sq k < np := by
  obtain ⟨-, -, -, -, -, okt, -⟩ := hS
  unfold hN
  split
  · exact hh
  · split
    · have := okt (sq (k - 1)) (hq (k - 1) (by omega))
      omega
    · exact hh
/-- the tour under way, without cells -/
def TOK (s : AS) (nl nt ns : Nat) : Prop := (s 0 0 5 = -1 ∧ s 0 0 7 = 0 ∧ s 0 0 8 = 0 ∧ s 0 0 9 = 0 ∧ s 0 0 10 = 0) ∨ (∃ (w cn dn : Nat), s 0 0 5 = (w : Int) ∧ w < ns ∧ s 0 0 7 = (cn : Int) ∧ s 0 0 8 = (dn : Int) ∧ (dn ≤ cn ∧ cn ≤ 20) ∧ (0 ≤ s 0 0 6 ∧ s 0 0 6 ≤ 100000) ∧ (∀ k, k ≤ cn → ¬ sWay nl (s 2) (sPth s w cn k) (sPth s w cn (k + 1)) = -1) ∧ s 0 0 9 = sWs s nl w cn (cn + 1) ∧ s 0 0 10 = sSum (fun k => s 3 (s 6 0 k).toNat 4) cn ∧ ∀ k, k < cn → 0 ≤ s 6 0 k ∧ s 6 0 k < nt)
theorem RC_pure {tys : xK} {M : Wm} {x : Nat} {s : AS} (h : RC tys M x s) : ∃ np nl nt ns, okS s np nl nt ns ∧ TOK s nl nt ns := by
  obtain ⟨np, nl, nt, ns, ho, pa, la, ta, rk, ea, sa, pn, ca, ga, ra, to, oa, gp, gl, gt, gr, ge, gc, so, L, T, c0, hS, -, -, -, -, hRT⟩ := h
  refine ⟨np, nl, nt, ns, hS, ?_⟩
  rcases hRT with ⟨a1, ⟨a2, a3, a4, a5⟩, -⟩ | ⟨w, ga, cn, dn, a1, a2, a3, a4, a5, a6, a7, a8, a9, a10, -, a11⟩
  · exact Or.inl ⟨a1, a2, a3, a4, a5⟩
  · exact Or.inr ⟨w, cn, dn, a1, a2, a4, a5, a6, a7, a8, a9, a10, fun k hk => (a11 k hk).1⟩
def mT9 (s : AS) (f : Nat → Nat → Int) (v7 v8 v9 : Int) : Prop := (0 ≤ v8 ∧ v8 ≤ 20) ∧ (0 ≤ v9 ∧ v9 ≤ 20) ∧ (¬ s 0 0 5 = -1 → v7 = s 0 0 6 ∧ v8 = s 0 0 7 ∧ v9 = s 0 0 8 ∧ ∀ k, k < (s 0 0 7).toNat → f 23 k = s 6 0 k)
/-- the model's cells hold the state s; th: what it last threw -/
def RM (tys : xK) (M : Wm) (m : Nat) (s : AS) (th : Int) : Prop := ∃ (a : Nat → Nat) (f : Nat → Nat → Int) (v7 v8 v9 : Int), MA tys M m a f th (s 0 0 0) (s 0 0 1) (s 0 0 2) (s 0 0 3) (s 0 0 4) (s 0 0 5) v7 v8 v9 ∧ mR s f (s 0 0 1).toNat (s 0 0 2).toNat (s 0 0 3).toNat (s 0 0 4).toNat ∧ mT9 s f v7 v8 v9
theorem RM_of {tys : xK} {M : Wm} {m : Nat} {s : AS} {th : Int} {a : Nat → Nat} {f : Nat → Nat → Int} {v1 v2 v3 v4 v5 v6 v7 v8 v9 : Int} {np nl nt ns : Nat} (h : MA tys M m a f th v1 v2 v3 v4 v5 v6 v7 v8 v9) (e1 : v1 = s 0 0 0) (e2 : v2 = s 0 0 1) (e3 : v3 = s 0 0 2) (e4 : v4 = s 0 0 3) (e5 : v5 = s 0 0 4) (e6 : v6 = s 0 0 5) (n1 : s 0 0 1 = (np : Int)) (n2 : s 0 0 2 = (nl : Int)) (n3 : s 0 0 3 = (nt : Int)) (n4 : s 0 0 4 = (ns : Int)) (hr : mR s f np nl nt ns) (ht : mT9 s f v7 v8 v9) : RM tys M m s th := by
  subst e1 e2 e3 e4 e5 e6
  refine ⟨a, f, v7, v8, v9, h, ?_, ht⟩
  rw [n1, n2, n3, n4]
  exact hr
theorem RM_to {tys : xK} {M : Wm} {m : Nat} {s : AS} {th : Int} {np nl nt ns : Nat} (hS : okS s np nl nt ns) (h : RM tys M m s th) : ∃ (a : Nat → Nat) (f : Nat → Nat → Int) (v7 v8 v9 : Int), MA tys M m a f th (s 0 0 0) (np : Int) (nl : Int) (nt : Int) (ns : Int) (s 0 0 5) v7 v8 v9 ∧ mR s f np nl nt ns ∧ mT9 s f v7 v8 v9 := by
  obtain ⟨a, f, v7, v8, v9, h1, h2, h3⟩ := h
  obtain ⟨⟨e1, e2, e3, e4⟩, -⟩ := hS
  rw [e1, e2, e3, e4] at h1 h2
  exact ⟨a, f, v7, v8, v9, h1, h2, h3⟩
theorem bf_iff {d : Nat → Int} {i j : Nat} : bf d i j ↔ d i < d j ∨ (d i = d j ∧ i < j) := Iff.rfl
