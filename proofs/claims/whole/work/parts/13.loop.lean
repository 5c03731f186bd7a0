/-! LOOPS, and small turns of a goal -/
section XL
variable {p : Program} {l : Launch} {e : Env} {R : Room} {s : State} {m : MethodId} {args : Array Value} {below : List Frame} {meth : Method} {c : Code} {cells slots : Nat} {Q : State → Prop} {P : Heap → List Loc → Prop}
variable {pc nL : Nat} {D : va_G} {A : Nat → Prop} {lv lv' : List (Nat × Value)} {st st' : List Value} {M : Wm}
theorem g_loop {σ : Type} (μ : σ → Nat) (Iv : σ → Prop) (lvf : σ → List (Nat × Value)) (Mf : σ → Wm)
    (step : ∀ x, Iv x → (∀ y, Iv y → μ y < μ x → gW p l e R s m args below meth c D A nL cells slots Q P pc (lvf y) st (Mf y)) → gW p l e R s m args below meth c D A nL cells slots Q P pc (lvf x) st (Mf x)) (x : σ) (h : Iv x) : gW p l e R s m args below meth c D A nL cells slots Q P pc (lvf x) st (Mf x) := by
  have key : ∀ (n : Nat) (x : σ), μ x < n → Iv x → gW p l e R s m args below meth c D A nL cells slots Q P pc (lvf x) st (Mf x) := by
    intro n
    induction n with
    | zero => intro x hx; exact absurd hx (Nat.not_lt_zero _)
    | succ n ih => intro x hx hI; exact step x hI (fun y hy hlt => ih y (by omega) hy)
  exact key (μ x + 1) x (Nat.lt_succ_self _) h
/-- what holds of any heap and places written holds of these -/
theorem g_toX (k : gW p l e R s m args below meth c D A nL cells slots Q wX pc lv st M) : gW p l e R s m args below meth c D A nL cells slots Q P pc lv st M := fun H locs ls _ hW hS hl => k H locs ls trivial hW hS hl
theorem g_eq (hl : lv = lv') (hs : st = st') (k : gW p l e R s m args below meth c D A nL cells slots Q P pc lv' st' M) : gW p l e R s m args below meth c D A nL cells slots Q P pc lv st M := by
  subst hl; subst hs; exact k
theorem g_mono {Q' : State → Prop} (hq : ∀ t, Q' t → Q t) (k : gW p l e R s m args below meth c D A nL cells slots Q' P pc lv st M) : gW p l e R s m args below meth c D A nL cells slots Q P pc lv st M := by
  intro H locs ls hP hW hS hl T hT X
  obtain ⟨t, a, b⟩ := k H locs ls hP hW hS hl T hT X
  exact ⟨t, a, hq t b⟩
end XL
