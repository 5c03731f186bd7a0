/-! THE PLANNER'S TABLES -/
def sLeg (w : Int) : Int := if w = -1 then 1000000 else w
theorem sLeg_or (w : Int) : (w = -1 ∧ sLeg w = 1000000) ∨ (¬ w = -1 ∧ sLeg w = w) := by
  unfold sLeg
  by_cases h : w = -1
  · rw [if_pos h]; omega
  · rw [if_neg h]; omega
/-- all entries within bounds -/
def inB (f : Nat → Int) : Prop := ∀ j, 0 ≤ f j ∧ f j ≤ 1000000
theorem inB_up {f : Nat → Int} {k : Nat} {v : Int} (h : inB f) (hv : 0 ≤ v ∧ v ≤ 1000000) : inB (va_up f k v) := by
  intro j
  unfold va_up
  by_cases e : j = k
  · rw [if_pos e]; exact hv
  · rw [if_neg e]; exact h j
theorem iu_s {f : Nat → Int} {k : Nat} {v : Int} : va_up f k v k = v := if_pos rfl
theorem iu_n {f : Nat → Int} {k j : Nat} {v : Int} (h : j ≠ k) : va_up f k v j = f j := if_neg h
/-- bits of sets -/
def nb (S k : Nat) : Nat := S / 2 ^ k % 2
theorem sBit_nb (S k : Nat) : sBit (S : Int) (k : Int) = (nb S k : Int) := by
  unfold sBit nb
  rw [show (S : Int).toNat = S by omega, show (k : Int).toNat = k by omega]
theorem nb_le {S k : Nat} (h : nb S k = 1) : 2 ^ k ≤ S := by
  unfold nb at h
  rcases Nat.lt_or_ge S (2 ^ k) with q | q
  · rw [Nat.div_eq_of_lt q] at h
    omega
  · exact q
theorem pw_b {k : Nat} (h : k ≤ 7) : 1 ≤ 2 ^ k ∧ 2 ^ k ≤ 128 := by
  have h1 : 2 ^ k ≤ 2 ^ 7 := Nat.pow_le_pow_right (by decide) h
  have h2 : 0 < 2 ^ k := Nat.pow_pos (by decide)
  omega
/-- the measure of legs: rows below i are laid -/
def Ms (n i : Nat) (hl : Nat → Int) (pl : Nat → Nat → Int) (L G : Nat → Int) : Prop := inB G ∧ G 63 = L 63 ∧ ∀ k, k < i → G (56 + k) = hl k ∧ G (k * 8 + 7) = hl k ∧ ∀ j, j < n → G (k * 8 + j) = pl k j
def Mi (n i j : Nat) (hl : Nat → Int) (pl : Nat → Nat → Int) (L G : Nat → Int) : Prop := Ms n i hl pl L G ∧ G (56 + i) = hl i ∧ G (i * 8 + 7) = hl i ∧ ∀ q, q < j → G (i * 8 + q) = pl i q
theorem Ms_0 {n : Nat} {hl : Nat → Int} {pl : Nat → Nat → Int} {L : Nat → Int} (h : inB L) : Ms n 0 hl pl L L := ⟨h, rfl, fun k hk => absurd hk (Nat.not_lt_zero k)⟩
theorem Mi_0 {n i : Nat} {hl : Nat → Int} {pl : Nat → Nat → Int} {L G : Nat → Int} (hn : n ≤ 7 ∧ i < n) (h : Ms n i hl pl L G) (hb : 0 ≤ hl i ∧ hl i ≤ 1000000) : Mi n i 0 hl pl L (va_up (va_up G (56 + i) (hl i)) (i * 8 + 7) (hl i)) := by
  obtain ⟨h1, h2, h3⟩ := h
  refine ⟨⟨inB_up (inB_up h1 hb) hb, ?_, ?_⟩, ?_, iu_s, fun q hq => absurd hq (Nat.not_lt_zero q)⟩
  · rw [iu_n (by omega), iu_n (by omega)]; exact h2
  · intro k hk
    obtain ⟨a1, a2, a3⟩ := h3 k hk
    refine ⟨?_, ?_, fun j hj => ?_⟩
    · rw [iu_n (by omega), iu_n (by omega)]; exact a1
    · rw [iu_n (by omega), iu_n (by omega)]; exact a2
    · rw [iu_n (by omega), iu_n (by omega)]; exact a3 j hj
  · rw [iu_n (by omega)]; exact iu_s
theorem Mi_s {n i j : Nat} {hl : Nat → Int} {pl : Nat → Nat → Int} {L G : Nat → Int} (hn : n ≤ 7 ∧ i < n ∧ j < n) (h : Mi n i j hl pl L G) (hb : 0 ≤ pl i j ∧ pl i j ≤ 1000000) : Mi n i (j + 1) hl pl L (va_up G (i * 8 + j) (pl i j)) := by
  obtain ⟨⟨h1, h2, h3⟩, h4, h5, h6⟩ := h
  refine ⟨⟨inB_up h1 hb, ?_, ?_⟩, ?_, ?_, ?_⟩
  · rw [iu_n (by omega)]; exact h2
  · intro k hk
    obtain ⟨a1, a2, a3⟩ := h3 k hk
    refine ⟨?_, ?_, fun q hq => ?_⟩
    · rw [iu_n (by omega)]; exact a1
    · rw [iu_n (by omega)]; exact a2
    · rw [iu_n (by omega)]; exact a3 q hq
  · rw [iu_n (by omega)]; exact h4
  · rw [iu_n (by omega)]; exact h5
  · intro q hq
    by_cases e : q = j
    · subst e; exact iu_s
    · rw [iu_n (by omega)]; exact h6 q (by omega)
theorem Ms_s {n i : Nat} {hl : Nat → Int} {pl : Nat → Nat → Int} {L G : Nat → Int} (h : Mi n i n hl pl L G) : Ms n (i + 1) hl pl L G := by
  obtain ⟨⟨h1, h2, h3⟩, h4, h5, h6⟩ := h
  refine ⟨h1, h2, fun k hk => ?_⟩
  by_cases e : k = i
  · subst e; exact ⟨h4, h5, h6⟩
  · exact h3 k (by omega)
/-- the least rest from v by the set S, over the first k nodes; L: legs, T: the table, both flat -/
def sLst (L T : Nat → Int) (S v : Nat) : Nat → Int
  | 0 => 1000000
  | k + 1 => if nb S k = 1 ∧ L (v * 8 + k) + T ((S - 2 ^ k) * 8 + k) < sLst L T S v k then L (v * 8 + k) + T ((S - 2 ^ k) * 8 + k) else sLst L T S v k
def sRst (L T : Nat → Int) (n S v : Nat) : Int := if S = 0 then L (v * 8 + 7) else sLst L T S v n
theorem sLst_b {L T : Nat → Int} {S v k : Nat} (hL : inB L) (hT : inB T) : 0 ≤ sLst L T S v k ∧ sLst L T S v k ≤ 1000000 := by
  induction k with
  | zero => unfold sLst; omega
  | succ k ih =>
    unfold sLst
    have h1 := hL (v * 8 + k)
    have h2 := hT ((S - 2 ^ k) * 8 + k)
    split <;> omega
theorem sRst_b {L T : Nat → Int} {n S v : Nat} (hL : inB L) (hT : inB T) : 0 ≤ sRst L T n S v ∧ sRst L T n S v ≤ 1000000 := by
  unfold sRst
  split
  · exact hL _
  · exact sLst_b hL hT
/-- the table T holds the least rests of all sets below b -/
def isT (L T : Nat → Int) (n b : Nat) : Prop := ∀ S, S < b → T (S * 8 + 7) = sRst L T n S 7 ∧ ∀ v, v < n → nb S v = 0 → T (S * 8 + v) = sRst L T n S v
theorem sLst_up {L T : Nat → Int} {S v n k j : Nat} {x : Int} (hn : n ≤ 7) (hS : S < 128) (hk : S * 8 ≤ k) (hj : j ≤ n) : sLst L (va_up T k x) S v j = sLst L T S v j := by
  induction j with
  | zero => rfl
  | succ j ih =>
    have e := ih (by omega)
    unfold sLst
    rw [e]
    by_cases hb : nb S j = 1
    · have h1 := nb_le hb
      have h2 := pw_b (k := j) (by omega)
      rw [iu_n (by omega)]
    · rw [if_neg (fun z => hb z.1), if_neg (fun z => hb z.1)]
theorem sRst_up {L T : Nat → Int} {S v n k : Nat} {x : Int} (hn : n ≤ 7) (hS : S < 128) (hk : S * 8 ≤ k) : sRst L (va_up T k x) n S v = sRst L T n S v := by
  unfold sRst
  rw [sLst_up hn hS hk (Nat.le_refl n)]
theorem isT_up {L T : Nat → Int} {n b k : Nat} {x : Int} (hn : n ≤ 7) (hb : b ≤ 128) (hk : b * 8 ≤ k) (h : isT L T n b) : isT L (va_up T k x) n b := by
  intro S hS
  obtain ⟨h1, h2⟩ := h S hS
  refine ⟨?_, fun v hv hz => ?_⟩
  · rw [iu_n (by omega), sRst_up hn (by omega) (by omega)]; exact h1
  · rw [iu_n (by omega), sRst_up hn (by omega) (by omega)]; exact h2 v hv hz
/-- at the set b the nodes below j are laid -/
def isR (L T : Nat → Int) (n b j : Nat) : Prop := isT L T n b ∧ ∀ v, v < j → nb b v = 0 → T (b * 8 + v) = sRst L T n b v
theorem isR_s {L T : Nat → Int} {n b j : Nat} (hn : n ≤ 7) (hb : b < 128) (hj : j < n) (h : isR L T n b j) : isR L (va_up T (b * 8 + j) (sRst L T n b j)) n b (j + 1) := by
  refine ⟨isT_up hn (by omega) (by omega) h.1, fun v hv hz => ?_⟩
  rw [sRst_up hn hb (by omega)]
  by_cases e : v = j
  · subst e; exact iu_s
  · rw [iu_n (by omega)]; exact h.2 v (by omega) hz
theorem isR_n {L T : Nat → Int} {n b j : Nat} (hz0 : ¬ nb b j = 0) (h : isR L T n b j) : isR L T n b (j + 1) := by
  refine ⟨h.1, fun v hv hz => ?_⟩
  by_cases e : v = j
  · subst e; exact absurd hz hz0
  · exact h.2 v (by omega) hz
theorem isT_s {L T : Nat → Int} {n b : Nat} (hn : n ≤ 7) (hb : b < 128) (h : isR L T n b n) : isT L (va_up T (b * 8 + 7) (sRst L T n b 7)) n (b + 1) := by
  intro S hS
  by_cases e : S = b
  · subst e
    refine ⟨?_, fun v hv hz => ?_⟩
    · rw [sRst_up hn hb (by omega)]; exact iu_s
    · rw [sRst_up hn hb (by omega), iu_n (by omega)]; exact h.2 v hv hz
  · exact isT_up hn (by omega) (by omega) h.1 S (by omega)
theorem nb_01 (S k : Nat) : nb S k = 0 ∨ nb S k = 1 := by
  unfold nb
  have := Nat.mod_lt (S / 2 ^ k) (show 0 < 2 by decide)
  omega
