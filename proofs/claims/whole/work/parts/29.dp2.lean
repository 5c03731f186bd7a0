/-! WHAT THE PLANNER ANSWERS -/
def sSum (wk : Nat → Int) : Nat → Int
  | 0 => 0
  | n + 1 => sSum wk n + wk n
theorem sSum_b {wk : Nat → Int} {n : Nat} (h : ∀ k, k < n → 0 ≤ wk k ∧ wk k ≤ 7200) : 0 ≤ sSum wk n ∧ sSum wk n ≤ 7200 * n := by
  induction n with
  | zero => unfold sSum; omega
  | succ n ih =>
    have h1 := ih (fun k hk => h k (by omega))
    have h2 := h n (by omega)
    unfold sSum
    omega
/-- how many of the first n can be gone to in sec seconds -/
def sStp (T wk : Nat → Int) (sec : Int) : Nat → Nat
  | 0 => 0
  | m + 1 => if T ((2 ^ (m + 1) - 1) * 8 + 7) < 1000000 ∧ T ((2 ^ (m + 1) - 1) * 8 + 7) + sSum wk (m + 1) ≤ sec then m + 1 else sStp T wk sec m
theorem sStp_le {T wk : Nat → Int} {sec : Int} (n : Nat) : sStp T wk sec n ≤ n := by
  induction n with
  | zero => unfold sStp; omega
  | succ n ih => unfold sStp; split <;> omega
/-- where a least way goes on from v by the set S: of several nodes the one with the least number -/
def sNx (L T num : Nat → Int) (S v : Nat) : Nat → Int
  | 0 => -1
  | k + 1 => if (nb S k = 1 ∧ L (v * 8 + k) + T ((S - 2 ^ k) * 8 + k) = T (S * 8 + v)) ∧ (sNx L T num S v k = -1 ∨ num k < num (sNx L T num S v k).toNat) then (k : Int) else sNx L T num S v k
theorem sNx_b {L T num : Nat → Int} {S v : Nat} (k : Nat) : -1 ≤ sNx L T num S v k ∧ sNx L T num S v k < k ∧ (¬ sNx L T num S v k = -1 → nb S (sNx L T num S v k).toNat = 1) := by
  induction k with
  | zero => unfold sNx; omega
  | succ k ih =>
    unfold sNx
    split
    · rename_i h
      refine ⟨by omega, by omega, fun _ => ?_⟩
      rw [show ((k : Int)).toNat = k by omega]
      exact h.1.1
    · omega
/-- the set and the node behind k steps of the first m -/
def sSv (L T num : Nat → Int) (n m : Nat) : Nat → Nat × Nat
  | 0 => (2 ^ m - 1, 7)
  | k + 1 => ((sSv L T num n m k).1 - 2 ^ (sNx L T num (sSv L T num n m k).1 (sSv L T num n m k).2 n).toNat, (sNx L T num (sSv L T num n m k).1 (sSv L T num n m k).2 n).toNat)
/-- the node that step k takes -/
def sStep (L T num : Nat → Int) (n m k : Nat) : Int := sNx L T num (sSv L T num n m k).1 (sSv L T num n m k).2 n
theorem sSv_b {L T num : Nat → Int} {n m : Nat} (hn : n ≤ 7) (hm : m ≤ n) (k : Nat) : (sSv L T num n m k).1 < 128 ∧ (sSv L T num n m k).2 ≤ 7 := by
  induction k with
  | zero =>
    unfold sSv
    have := pw_b (k := m) (by omega)
    dsimp only
    omega
  | succ k ih =>
    unfold sSv
    have := sNx_b (L := L) (T := T) (num := num) (S := (sSv L T num n m k).1) (v := (sSv L T num n m k).2) n
    have h2 := Nat.sub_le (sSv L T num n m k).1 (2 ^ (sNx L T num (sSv L T num n m k).1 (sSv L T num n m k).2 n).toNat)
    dsimp only
    refine ⟨Nat.lt_of_le_of_lt h2 ih.1, by omega⟩
theorem up4 {M : Wm} {a b : Nat} {x y x2 y2 : Option va_E} (h : a ≠ b) : va_up (va_up (va_up (va_up M a x) b y) a x2) b y2 = va_up (va_up M a x2) b y2 := by
  funext j
  unfold va_up
  by_cases h1 : j = b
  · simp [h1]
  · by_cases h2 : j = a
    · subst h2
      simp [h1]
    · simp [h1, h2]
/-- the parts that are chosen -/
def ChA (M : Wm) (n : Nat) (gc : Nat → Option Nat) (cq : Nat → Nat) (pp tt : Nat → Nat → Int) : Prop := ∀ k, k < n → cq k < 40 ∧ ∃ b, gc k = some b ∧ PtA M b (cq k) (pp (cq k)) (tt (cq k))
theorem ChA_el {M : Wm} {n : Nat} {gc : Nat → Option Nat} {cq : Nat → Nat} {pp tt : Nat → Nat → Int} (h : ChA M n gc cq pp tt) : ∀ k, k < n → okP (pp (cq k)) ∧ ∃ b nb pa t, gc k = some b ∧ M b = some (oPt nb pa t) ∧ M pa = some (oPl (pp (cq k))) := by
  intro k hk
  obtain ⟨-, b, h1, h2, h3, pa, h4, h5⟩ := h k hk
  exact ⟨h2, b, _, pa, _, h1, h4, h5⟩
