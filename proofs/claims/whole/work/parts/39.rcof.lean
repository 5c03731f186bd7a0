/-! WHAT THE STATE GIVES the smaller pictures -/
theorem Ps_of {M : Wm} {s : AS} {np nl nt ns : Nat} {gp gl gt ge : Nat → Option Nat} (hS : okS s np nl nt ns) (h : Pools M s np nl nt ns gp gl gt ge) : PsA M nt gt (sPP s) (s 3) := by
  obtain ⟨-, hb, -, hp, -, ht, -⟩ := hS
  refine ⟨by omega, fun k hk => ?_⟩
  obtain ⟨a, pa, h1, h2, h3⟩ := h.2.2.1 k hk
  obtain ⟨t1, t2, t3⟩ := ht k hk
  obtain ⟨pa2, g1, g2⟩ := h.1 (s 3 k 9).toNat (by omega)
  rw [h3] at g1
  cases g1
  exact ⟨a, h1, hp _ (by omega), t1, pa, h2, g2⟩
theorem Pe_of {M : Wm} {s : AS} {np nl nt ns : Nat} {gp gl gt ge : Nat → Option Nat} (hS : okS s np nl nt ns) (h : Pools M s np nl nt ns gp gl gt ge) (k : Nat) (hk : k < ns) : ∃ a, ge k = some a ∧ PeA M a (k : Int) (sHP s k) (s 4 k) := by
  obtain ⟨-, hb, -, hp, -, -, hu, -⟩ := hS
  obtain ⟨a, pa, h1, h2, h3⟩ := h.2.2.2 k hk
  obtain ⟨t1, t2, t3⟩ := hu k hk
  obtain ⟨pa2, g1, g2⟩ := h.1 (s 4 k 2).toNat (by omega)
  rw [h3] at g1
  cases g1
  exact ⟨a, h1, hp _ (by omega), t1, pa, h2, g2⟩
theorem Ho_of {tys : xK} {M : Wm} {s : AS} {np nl nt ns ho pa la : Nat} {gp gl gt ge : Nat → Option Nat} (hS : okS s np nl nt ns) (h : Pools M s np nl nt ns gp gl gt ge) (hho : M ho = some (oHo pa la np nl)) (hla : M la = some (aR tys 3 6 gl)) : HoA tys M ho nl (s 2) := by
  obtain ⟨-, hb, -, -, hl, -⟩ := hS
  exact ⟨by omega, hl, pa, la, np, gl, hho, hla, h.2.1⟩
theorem To_of {tys : xK} {M : Wm} {s : AS} {np nl nt ns to oa w ga cn dn : Nat} {gp gl gt ge so : Nat → Option Nat} (hS : okS s np nl nt ns) (h : Pools M s np nl nt ns gp gl gt ge) (hw : w < ns) (hge : ge w = some ga) (hc : dn ≤ cn ∧ cn ≤ 20) (hto : M to = some (oTo oa ga (s 0 0 6) cn dn (s 0 0 9) (s 0 0 10))) (hoa : M oa = some (aR tys 4 20 so)) (hso : ∀ k, k < cn → (0 ≤ s 6 0 k ∧ s 6 0 k < nt) ∧ so k = gt (s 6 0 k).toNat) : ToA tys M to oa ga (s 0 0 6) cn dn (s 0 0 9) (s 0 0 10) so (fun k => (s 6 0 k).toNat) (sPP s) (s 3) (sHP s w) := by
  have hps := Ps_of hS h
  obtain ⟨a, g1, g2⟩ := Pe_of hS h w hw
  rw [hge] at g1
  cases g1
  refine ⟨hto, hoa, ⟨by omega, by omega⟩, ⟨_, _, g2⟩, fun k hk => ?_⟩
  obtain ⟨q1, q2⟩ := hso k hk
  obtain ⟨b, h1, h2⟩ := hps.2 (s 6 0 k).toNat (by omega)
  have := hps.1
  exact ⟨by show (s 6 0 k).toNat < 40; omega, b, q2.trans h1, h2⟩
/-- cells that are no place, lift, part, person -/
def pk (e : va_E) : Prop := match e with
  | .inr o => o.1 ≠ 1 ∧ o.1 ≠ 2 ∧ o.1 ≠ 3 ∧ o.1 ≠ 4
  | .inl _ => True
theorem pk_ne {M : Wm} {a b : Nat} {e : va_E} {ci : Nat} {fs : List Value} (ha : M a = some e) (hk : pk e) (hb : M b = some (.inr (ci, fs))) (hci : ci = 1 ∨ ci = 2 ∨ ci = 3 ∨ ci = 4) : b ≠ a := by
  intro q
  rw [← q, hb] at ha
  cases ha
  obtain ⟨h1, h2, h3, h4⟩ : ci ≠ 1 ∧ ci ≠ 2 ∧ ci ≠ 3 ∧ ci ≠ 4 := hk
  omega
theorem Pools_to {M M' : Wm} {s : AS} {np nl nt ns : Nat} {gp gl gt ge : Nat → Option Nat} (h : Pools M s np nl nt ns gp gl gt ge) (hk : ∀ (b ci : Nat) (fs : List Value), M b = some (.inr (ci, fs)) → (ci = 1 ∨ ci = 2 ∨ ci = 3 ∨ ci = 4) → M' b = some (.inr (ci, fs))) : Pools M' s np nl nt ns gp gl gt ge := by
  obtain ⟨h1, h2, h3, h4⟩ := h
  refine ⟨fun k hk1 => ?_, fun k hk1 => ?_, fun k hk1 => ?_, fun k hk1 => ?_⟩
  · obtain ⟨a, g1, g2⟩ := h1 k hk1
    exact ⟨a, g1, hk a _ _ g2 (by omega)⟩
  · obtain ⟨a, g1, g2⟩ := h2 k hk1
    exact ⟨a, g1, hk a _ _ g2 (by omega)⟩
  · obtain ⟨a, pa, g1, g2, g3⟩ := h3 k hk1
    exact ⟨a, pa, g1, hk a _ _ g2 (by omega), g3⟩
  · obtain ⟨a, pa, g1, g2, g3⟩ := h4 k hk1
    exact ⟨a, pa, g1, hk a _ _ g2 (by omega), g3⟩
theorem Pools_up {M : Wm} {s : AS} {np nl nt ns a : Nat} {gp gl gt ge : Nat → Option Nat} {e x : va_E} (h : Pools M s np nl nt ns gp gl gt ge) (ha : M a = some e) (hk : pk e) : Pools (va_up M a (some x)) s np nl nt ns gp gl gt ge :=
  Pools_to h (fun _ _ _ hb hci => (wd_up_n (pk_ne ha hk hb hci)).trans hb)
theorem Pools_new {M : Wm} {s : AS} {np nl nt ns q : Nat} {gp gl gt ge : Nat → Option Nat} {x : va_E} (h : Pools M s np nl nt ns gp gl gt ge) (hq : M q = none) : Pools (va_up M q (some x)) s np nl nt ns gp gl gt ge :=
  Pools_to h (fun _ _ _ hb _ => (wd_up_n (ne_new hq hb)).trans hb)
/-- fines and what is wanted -/
def sDays (b : Int) : Int := if b ≤ 0 then 0 else if b ≤ 10 then b else if b ≤ 30 then 10 + 2 * (b - 10) else 50 + 4 * (b - 30)
theorem sDays_or (b : Int) : (b ≤ 0 ∧ sDays b = 0) ∨ (0 < b ∧ b ≤ 10 ∧ sDays b = b) ∨ (10 < b ∧ b ≤ 30 ∧ sDays b = 10 + 2 * (b - 10)) ∨ (30 < b ∧ sDays b = 50 + 4 * (b - 30)) := by
  unfold sDays
  split
  · omega
  · split
    · omega
    · split <;> omega
def sFine (r b : Int) : Int := if 1000000 < r * sDays b then 1000000 else r * sDays b
def sCnt (s : AS) (kd dy : Int) : Nat → Int
  | 0 => 0
  | n + 1 => sCnt s kd dy n + (if s 3 n 1 = kd ∧ sDue (s 3 n) ≤ dy then 1 else 0)
theorem sCnt_b (s : AS) (kd dy : Int) (n : Nat) : 0 ≤ sCnt s kd dy n ∧ sCnt s kd dy n ≤ n := by
  induction n with
  | zero => unfold sCnt; omega
  | succ n ih => unfold sCnt; split <;> omega
/-- the tour's cell -/
theorem RT_to {M : Wm} {s : AS} {nl nt ns to oa : Nat} {ge gt so : Nat → Option Nat} (h : RT M s nl nt ns to oa ge gt so) : ∃ fs, M to = some (.inr (6, fs)) := by
  rcases h with ⟨-, -, d0, h⟩ | ⟨w, ga, cn, dn, -, -, -, -, -, -, -, -, -, -, h, -⟩
  · exact ⟨_, h⟩
  · exact ⟨_, h⟩
theorem RT_M {M M' : Wm} {s : AS} {nl nt ns to oa : Nat} {ge gt so : Nat → Option Nat} {fs : List Value} (h : RT M s nl nt ns to oa ge gt so) (h0 : M to = some (.inr (6, fs))) (h1 : M' to = some (.inr (6, fs))) : RT M' s nl nt ns to oa ge gt so := by
  have e : M' to = M to := h1.trans h0.symm
  rcases h with ⟨a1, a2, d0, h⟩ | ⟨w, ga, cn, dn, a1, a2, a3, a4, a5, a6, a7, a8, a9, a10, h, a11⟩
  · exact Or.inl ⟨a1, a2, d0, e.trans h⟩
  · exact Or.inr ⟨w, ga, cn, dn, a1, a2, a3, a4, a5, a6, a7, a8, a9, a10, e.trans h, a11⟩
theorem ne_tt {tys : xK} {M : Wm} {a b t1 t2 n k : Nat} {f g : Nat → Option Nat} (h1 : M a = some (aR tys t1 n f)) (h2 : M b = some (aR tys t2 k g)) (ht : tc tys t1 ≠ tc tys t2) : a ≠ b := by
  intro e
  rw [e, h2] at h1
  exact ht (congrArg Prod.fst (Sum.inl.inj (Option.some.inj h1))).symm
