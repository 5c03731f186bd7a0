/-! THE MODEL: its object and its arrays -/
abbrev oMo (a : Nat → Nat) (v0 v1 v2 v3 v4 v5 v6 v7 v8 v9 : Int) : va_E := .inr (8, [.int (iI v0), .int (iI v1), .int (iI v2), .ref (a 0), .ref (a 1), .ref (a 2), .int (iI v3), .ref (a 3), .ref (a 4), .ref (a 5), .ref (a 6), .ref (a 7), .ref (a 8), .int (iI v4), .ref (a 9), .ref (a 10), .ref (a 11), .ref (a 12), .ref (a 13), .ref (a 14), .ref (a 15), .ref (a 16), .ref (a 17), .ref (a 18), .int (iI v5), .ref (a 19), .ref (a 20), .ref (a 21), .ref (a 22), .int (iI v6), .int (iI v7), .int (iI v8), .int (iI v9), .ref (a 23), .ref (a 24), .ref (a 25), .ref (a 26)])
abbrev oMb (b : Nat → Option Nat) (v0 v1 v2 v3 v4 v5 v6 v7 v8 v9 : Int) : va_E := .inr (8, [.int (iI v0), .int (iI v1), .int (iI v2), va_rf (b 0), va_rf (b 1), va_rf (b 2), .int (iI v3), va_rf (b 3), va_rf (b 4), va_rf (b 5), va_rf (b 6), va_rf (b 7), va_rf (b 8), .int (iI v4), va_rf (b 9), va_rf (b 10), va_rf (b 11), va_rf (b 12), va_rf (b 13), va_rf (b 14), va_rf (b 15), va_rf (b 16), va_rf (b 17), va_rf (b 18), .int (iI v5), va_rf (b 19), va_rf (b 20), va_rf (b 21), va_rf (b 22), .int (iI v6), .int (iI v7), .int (iI v8), .int (iI v9), va_rf (b 23), va_rf (b 24), va_rf (b 25), va_rf (b 26)])
def mLen (k : Nat) : Nat := if k < 3 then 30 else if k < 9 then 6 else if k < 19 then 40 else if k < 22 then 8 else if k = 22 then 5 else if k = 23 then 20 else 7
/-- the model m, its arrays a, what they hold, its numbers: thrown, rate, places, lifts, parts, persons, who, day, stops, dones -/
def MA (tys : xK) (M : Wm) (m : Nat) (a : Nat → Nat) (f : Nat → Nat → Int) (v0 v1 v2 v3 v4 v5 v6 v7 v8 v9 : Int) : Prop := M m = some (oMo a v0 v1 v2 v3 v4 v5 v6 v7 v8 v9) ∧ (∀ k, k < 27 → M (a k) = some (aI tys (mLen k) (f k))) ∧ ∀ i j, i < 27 → j < 27 → i ≠ j → a i ≠ a j
theorem MA_V {tys : xK} {M : Wm} {m : Nat} {a : Nat → Nat} {f : Nat → Nat → Int} {v0 v1 v2 v3 v4 v5 v6 v7 v8 v9 : Int} (h : MA tys M m a f v0 v1 v2 v3 v4 v5 v6 v7 v8 v9) (w0 w1 w2 w3 w4 w5 w6 w7 w8 w9 : Int) : MA tys (va_up M m (some (oMo a w0 w1 w2 w3 w4 w5 w6 w7 w8 w9))) m a f w0 w1 w2 w3 w4 w5 w6 w7 w8 w9 :=
  ⟨wd_up_s, fun k hk => (wd_up_n (Ne.symm (ne_oa h.1 (h.2.1 k hk)))).trans (h.2.1 k hk), h.2.2⟩
theorem MA_F {tys : xK} {M : Wm} {m : Nat} {a : Nat → Nat} {f : Nat → Nat → Int} {v0 v1 v2 v3 v4 v5 v6 v7 v8 v9 : Int} (h : MA tys M m a f v0 v1 v2 v3 v4 v5 v6 v7 v8 v9) (k : Nat) (hk : k < 27) {n : Nat} (g : Nat → Int) (hn : n = mLen k) : MA tys (va_up M (a k) (some (aI tys n g))) m a (va_up f k g) v0 v1 v2 v3 v4 v5 v6 v7 v8 v9 := by
  subst hn
  refine ⟨(wd_up_n (ne_oa h.1 (h.2.1 k hk))).trans h.1, fun j hj => ?_, h.2.2⟩
  by_cases e : j = k
  · subst e
    rw [wU_s (f := f) (k := j) (v := g)]
    exact wd_up_s
  · rw [wU_n (f := f) (v := g) e]
    exact (wd_up_n (h.2.2 j k hj hk e)).trans (h.2.1 j hj)
/-- while it is made: the first n arrays are there -/
def MI (tys : xK) (M : Wm) (m : Nat) (b : Nat → Option Nat) (n : Nat) (v0 v1 v2 v3 v4 v5 v6 v7 v8 v9 : Int) : Prop := M m = some (oMb b v0 v1 v2 v3 v4 v5 v6 v7 v8 v9) ∧ (∀ k, k < n → ∃ q, b k = some q ∧ M q = some (aI tys (mLen k) (fun _ => 0))) ∧ ∀ i j, i < n → j < n → i ≠ j → b i ≠ b j
theorem MI_0 {tys : xK} {M : Wm} {m : Nat} {v0 v1 v2 v3 v4 v5 v6 v7 v8 v9 : Int} (h : M m = some (oMb (fun _ => none) v0 v1 v2 v3 v4 v5 v6 v7 v8 v9)) : MI tys M m (fun _ => none) 0 v0 v1 v2 v3 v4 v5 v6 v7 v8 v9 := ⟨h, fun k hk => absurd hk (Nat.not_lt_zero k), fun i _ hi => absurd hi (Nat.not_lt_zero i)⟩
theorem MI_s {tys : xK} {M : Wm} {m q n l : Nat} {b : Nat → Option Nat} {v0 v1 v2 v3 v4 v5 v6 v7 v8 v9 : Int} (h : MI tys M m b n v0 v1 v2 v3 v4 v5 v6 v7 v8 v9) (hq : M q = none) (hl : l = mLen n) : MI tys (va_up (va_up M q (some (aI tys l (fun _ => 0)))) m (some (oMb (va_up b n (some q)) v0 v1 v2 v3 v4 v5 v6 v7 v8 v9))) m (va_up b n (some q)) (n + 1) v0 v1 v2 v3 v4 v5 v6 v7 v8 v9 := by
  subst hl
  obtain ⟨h1, h2, h3⟩ := h
  have nq : ∀ k, k < n → b k ≠ some q := by
    intro k hk e
    obtain ⟨q2, g1, g2⟩ := h2 k hk
    rw [e] at g1
    cases g1
    rw [hq] at g2
    cases g2
  have nm : q ≠ m := by
    intro e
    rw [e, h1] at hq
    cases hq
  refine ⟨wd_up_s, fun k hk => ?_, fun i j hi hj hij => ?_⟩
  · by_cases e : k = n
    · subst e
      exact ⟨q, wU_s, (wd_up_n nm).trans wd_up_s⟩
    · obtain ⟨q2, g1, g2⟩ := h2 k (by omega)
      exact ⟨q2, (wU_n e).trans g1, (wd_up_n (Ne.symm (ne_oa h1 g2))).trans ((wd_up_n (ne_new hq g2)).trans g2)⟩
  · by_cases e : i = n
    · subst e
      rw [wU_s, wU_n (by omega)]
      exact Ne.symm (nq j (by omega))
    · rw [wU_n e]
      by_cases e2 : j = n
      · subst e2
        rw [wU_s]
        exact nq i (by omega)
      · rw [wU_n e2]
        exact h3 i j (by omega) (by omega) hij
theorem MI_V {tys : xK} {M : Wm} {m n : Nat} {b : Nat → Option Nat} {v0 v1 v2 v3 v4 v5 v6 v7 v8 v9 : Int} (h : MI tys M m b n v0 v1 v2 v3 v4 v5 v6 v7 v8 v9) (w0 w1 w2 w3 w4 w5 w6 w7 w8 w9 : Int) : MI tys (va_up M m (some (oMb b w0 w1 w2 w3 w4 w5 w6 w7 w8 w9))) m b n w0 w1 w2 w3 w4 w5 w6 w7 w8 w9 := by
  obtain ⟨h1, h2, h3⟩ := h
  refine ⟨wd_up_s, fun k hk => ?_, h3⟩
  obtain ⟨q, g1, g2⟩ := h2 k hk
  exact ⟨q, g1, (wd_up_n (Ne.symm (ne_oa h1 g2))).trans g2⟩
theorem MI_end {tys : xK} {M : Wm} {m : Nat} {b : Nat → Option Nat} {v0 v1 v2 v3 v4 v5 v6 v7 v8 v9 : Int} (h : MI tys M m b 27 v0 v1 v2 v3 v4 v5 v6 v7 v8 v9) : ∃ a, MA tys M m a (fun _ _ => 0) v0 v1 v2 v3 v4 v5 v6 v7 v8 v9 := by
  obtain ⟨h1, h2, h3⟩ := h
  have e : ∀ k, k < 27 → b k = some ((b k).getD 0) := by
    intro k hk
    obtain ⟨q, g1, -⟩ := h2 k hk
    rw [g1]
    rfl
  refine ⟨fun k => (b k).getD 0, ?_, fun k hk => ?_, fun i j hi hj hij he => ?_⟩
  · rw [h1]
    unfold oMb oMo
    rw [e 0 (by decide), e 1 (by decide), e 2 (by decide), e 3 (by decide), e 4 (by decide), e 5 (by decide), e 6 (by decide), e 7 (by decide), e 8 (by decide), e 9 (by decide), e 10 (by decide), e 11 (by decide), e 12 (by decide), e 13 (by decide), e 14 (by decide), e 15 (by decide), e 16 (by decide), e 17 (by decide), e 18 (by decide), e 19 (by decide), e 20 (by decide), e 21 (by decide), e 22 (by decide), e 23 (by decide), e 24 (by decide), e 25 (by decide), e 26 (by decide)]
    rfl
  · obtain ⟨q, g1, g2⟩ := h2 k hk
    show M ((b k).getD 0) = _
    rw [g1]
    exact g2
  · refine h3 i j hi hj hij ?_
    rw [e i hi, e j hj]
    exact congrArg some he
section XA
variable {p : Program} {l : Launch} {e : Env} {R : Room} {s : State} {m : MethodId} {args : Array Value} {below : List Frame} {meth : Method} {c : Code} {cells slots : Nat} {Q : State → Prop} {P : Heap → List Loc → Prop}
variable {pc nL : Nat} {D : va_G} {A : Nat → Prop} {lv : List (Nat × Value)} {st : List Value} {M : Wm}
theorem g_abs {X : Wm → Prop} (h : X M) (k : ∀ M, X M → gW p l e R s m args below meth c D A nL cells slots Q P pc lv st M) : gW p l e R s m args below meth c D A nL cells slots Q P pc lv st M := k M h
end XA
section XB
variable {p : Program} {l : Launch} {e : Env} {R : Room} {s : State} {m : MethodId} {args : Array Value} {below : List Frame} {meth : Method} {c : Code} {cells slots : Nat} {Q : State → Prop} {P : Heap → List Loc → Prop}
variable {cc : ByteArray} {pc nL : Nat} {own : String} {D : va_G} {A : Nat → Prop} {tys : xK} {lv lv' : List (Nat × Value)} {st : List Value} {M : Wm}
theorem g_ialdN (C : cX p m meth c cc nL s args own D tys A) {a n : Nat} {f : Nat → Int} {z : Int} (t0 : Nat) (ht : tys[t0]? = some (tc tys t0, .int)) (he : M a = some (.inl (tc tys t0, n, .inl (fun j => iI (f j))))) (k : Nat) (hk : z = (k : Int)) (hz : k < n ∧ n < 2147483648) (hd : decode cc pc = .ok (.iaload, 1)) (kk : gW p l e R s m args below meth c D A nL cells slots Q P (pc + 1) lv (.int (iI (f k)) :: st) M) : gW p l e R s m args below meth c D A nL cells slots Q P pc lv (.int (iI z) :: .ref a :: st) M := by
  subst hk
  exact g_iald C t0 ht he (by omega) hd kk
theorem g_iastN (C : cX p m meth c cc nL s args own D tys A) {a n : Nat} {f : Nat → Int} {z v : Int} (t0 : Nat) (ht : tys[t0]? = some (tc tys t0, .int)) (he : M a = some (.inl (tc tys t0, n, .inl (fun j => iI (f j))))) (k : Nat) (hk : z = (k : Int)) (hz : k < n ∧ n < 2147483648) (hd : decode cc pc = .ok (.iastore, 1)) (kk : gW p l e R s m args below meth c D A nL cells slots Q wX (pc + 1) lv st (va_up M a (some (aI tys n (va_up f k v))))) (h0 : t0 = 0) : gW p l e R s m args below meth c D A nL cells slots Q P pc lv (.int (iI v) :: .int (iI z) :: .ref a :: st) M := by
  subst hk
  subst h0
  exact g_iast C 0 ht he (by omega) hd kk
end XB
/-- what the model's arrays hold of the state -/
def mR (s : AS) (f : Nat → Nat → Int) (np nl nt ns : Nat) : Prop := (∀ k, k < np → f 0 k = s 1 k 0 ∧ f 1 k = s 1 k 1 ∧ f 2 k = s 1 k 2) ∧ (∀ k, k < nl → f 3 k = s 2 k 0 ∧ f 4 k = s 2 k 1 ∧ f 5 k = s 2 k 2 ∧ f 6 k = s 2 k 3 ∧ f 7 k = s 2 k 4 ∧ f 8 k = s 2 k 5) ∧ (∀ k, k < nt → f 9 k = s 3 k 9 ∧ f 10 k = s 3 k 0 ∧ f 11 k = s 3 k 1 ∧ f 12 k = s 3 k 2 ∧ f 13 k = s 3 k 3 ∧ f 14 k = s 3 k 4 ∧ f 15 k = s 3 k 5 ∧ f 16 k = s 3 k 6 ∧ f 17 k = s 3 k 7 ∧ f 18 k = s 3 k 8 ∧ s 3 k 5 ≤ s 3 k 7) ∧ (∀ k, nt ≤ k → f 15 k = 0 ∧ f 16 k = 0 ∧ f 17 k = 0) ∧ (∀ k, k < ns → f 19 k = s 4 k 0 ∧ f 20 k = s 4 k 2 ∧ f 21 k = s 4 k 1) ∧ ∀ k, f 22 k = s 5 0 k
