/-! THE PLANNER'S ORDER: the first, by parts' numbers, of those with the least walks -/
def F7 (S : Nat) : List Nat := (List.range 7).filter (fun k => nb S k == 1)
def En : Nat → List Nat → Prop
  | S, [] => S = 0
  | S, k :: o => k < 7 ∧ nb S k = 1 ∧ En (S - 2 ^ k) o
theorem bit_off : ∀ S, S < 128 → ∀ k, k < 7 → nb S k = 1 → nb (S - 2 ^ k) k = 0 := by decide +kernel
theorem F7_er : ∀ S, S < 128 → ∀ k, k < 7 → nb S k = 1 → (F7 S).erase k = F7 (S - 2 ^ k) := by decide +kernel
theorem F7_len : ∀ S, S < 128 → ∀ k, k < 7 → nb S k = 1 → (F7 S).length = (F7 (S - 2 ^ k)).length + 1 := by decide +kernel
theorem F7_ones : ∀ m, m < 8 → F7 (2 ^ m - 1) = List.range m := by decide +kernel
theorem F7_nil : ∀ S, S < 128 → (F7 S = [] ↔ S = 0) := by decide +kernel
theorem F7_mem {S k : Nat} : k ∈ F7 S ↔ k < 7 ∧ nb S k = 1 := by
  unfold F7
  rw [List.mem_filter, List.mem_range, beq_iff_eq]
theorem En_perm {o : List Nat} : ∀ {S : Nat}, S < 128 → (En S o ↔ o.Perm (F7 S)) := by
  induction o with
  | nil =>
    intro S hS
    show S = 0 ↔ _
    rw [List.nil_perm, F7_nil S hS]
  | cons k o ih =>
    intro S hS
    show (k < 7 ∧ nb S k = 1 ∧ En (S - 2 ^ k) o) ↔ _
    rw [List.cons_perm_iff_perm_erase, F7_mem]
    constructor
    · rintro ⟨h1, h2, h3⟩
      exact ⟨⟨h1, h2⟩, by rw [F7_er S hS k h1 h2]; exact (ih (Nat.lt_of_le_of_lt (Nat.sub_le _ _) hS)).mp h3⟩
    · rintro ⟨⟨h1, h2⟩, h3⟩
      rw [F7_er S hS k h1 h2] at h3
      exact ⟨h1, h2, (ih (Nat.lt_of_le_of_lt (Nat.sub_le _ _) hS)).mpr h3⟩
def cst (L : Nat → Int) : Nat → List Nat → Int
  | v, [] => L (v * 8 + 7)
  | v, k :: o => L (v * 8 + k) + cst L k o
/-- first by the numbers -/
def lx : List Nat → List Nat → Prop
  | [], _ => True
  | _ :: _, [] => False
  | a :: o, b :: o' => a < b ∨ (a = b ∧ lx o o')
theorem lx_as : ∀ {o o' : List Nat}, o.length = o'.length → lx o o' → lx o' o → o = o'
  | [], [], _, _, _ => rfl
  | a :: o, b :: o', hl, h1, h2 => by
    unfold lx at h1 h2
    rcases h1 with h1 | ⟨h1, h3⟩
    · rcases h2 with h2 | ⟨h2, -⟩ <;> omega
    · rcases h2 with h2 | ⟨-, h4⟩
      · omega
      · rw [h1, lx_as (by simpa using hl) h3 h4]
theorem sLst_le {L T : Nat → Int} {S v n k : Nat} (hk : k < n) (hb : nb S k = 1) : sLst L T S v n ≤ L (v * 8 + k) + T ((S - 2 ^ k) * 8 + k) := by
  induction n with
  | zero => omega
  | succ n ih =>
    unfold sLst
    by_cases e : k = n
    · subst e
      split <;> omega
    · have := ih (by omega)
      split <;> omega
theorem sLst_at {L T : Nat → Int} {S v n : Nat} (h : sLst L T S v n < 1000000) : ∃ k, k < n ∧ nb S k = 1 ∧ L (v * 8 + k) + T ((S - 2 ^ k) * 8 + k) = sLst L T S v n := by
  induction n with
  | zero => unfold sLst at h; omega
  | succ n ih =>
    unfold sLst at h ⊢
    by_cases q : nb S n = 1 ∧ L (v * 8 + n) + T ((S - 2 ^ n) * 8 + n) < sLst L T S v n
    · rw [if_pos q]; exact ⟨n, by omega, q.1, rfl⟩
    · rw [if_neg q] at h ⊢
      obtain ⟨k, h1, h2⟩ := ih h
      exact ⟨k, by omega, h2⟩
theorem sNx_no {L T num : Nat → Int} {S v n k : Nat} (hk : k < n) (hb : nb S k = 1) (he : L (v * 8 + k) + T ((S - 2 ^ k) * 8 + k) = T (S * 8 + v)) : ¬ sNx L T num S v n = -1 ∧ num (sNx L T num S v n).toNat ≤ num k := by
  induction n with
  | zero => omega
  | succ n ih =>
    unfold sNx
    by_cases e : k = n
    · subst e
      split
      · refine ⟨by omega, ?_⟩
        rw [show ((k : Nat) : Int).toNat = k by omega]
        omega
      · rename_i h
        have h2 : ¬ (sNx L T num S v k = -1 ∨ num k < num (sNx L T num S v k).toNat) := fun z => h ⟨⟨hb, he⟩, z⟩
        omega
    · have := ih (by omega)
      split
      · rename_i h
        refine ⟨by omega, ?_⟩
        rw [show ((n : Nat) : Int).toNat = n by omega]
        omega
      · exact this
theorem sNx_eq {L T num : Nat → Int} {S v n : Nat} (h : ¬ sNx L T num S v n = -1) : L (v * 8 + (sNx L T num S v n).toNat) + T ((S - 2 ^ (sNx L T num S v n).toNat) * 8 + (sNx L T num S v n).toNat) = T (S * 8 + v) := by
  induction n with
  | zero => exact absurd rfl h
  | succ n ih =>
    unfold sNx at h ⊢
    by_cases q : (nb S n = 1 ∧ L (v * 8 + n) + T ((S - 2 ^ n) * 8 + n) = T (S * 8 + v)) ∧ (sNx L T num S v n = -1 ∨ num n < num (sNx L T num S v n).toNat)
    · rw [if_pos q]
      exact q.1.2
    · rw [if_neg q] at h ⊢
      exact ih h
def dm (n S v : Nat) : Prop := S < 2 ^ n ∧ (v = 7 ∨ (v < n ∧ nb S v = 0))
theorem dm_T {L T : Nat → Int} {n S v : Nat} (hT : isT L T n (2 ^ n)) (h : dm n S v) : T (S * 8 + v) = sRst L T n S v := by
  obtain ⟨h1, h2 | ⟨h2, h3⟩⟩ := h
  · subst h2; exact (hT S h1).1
  · exact (hT S h1).2 v h2 h3
theorem p2_le {n : Nat} (h : n ≤ 7) : 2 ^ n ≤ 128 := (pw_b h).2
theorem bit_lt {n S k : Nat} (h : S < 2 ^ n) (hb : nb S k = 1) : k < n := by
  have h1 := nb_le hb
  exact (Nat.pow_lt_pow_iff_right (show 1 < 2 by decide)).mp (Nat.lt_of_le_of_lt h1 h)
theorem dm_s {n S v k : Nat} (hn : n ≤ 7) (h : dm n S v) (hb : nb S k = 1) : dm n (S - 2 ^ k) k := by
  have h1 := bit_lt h.1 hb
  have h2 := p2_le hn
  have h3 := h.1
  exact ⟨Nat.lt_of_le_of_lt (Nat.sub_le _ _) h3, Or.inr ⟨h1, bit_off S (by omega) k (by omega) hb⟩⟩
theorem nz_bit {S k : Nat} (hb : nb S k = 1) : S ≠ 0 := by
  intro e
  subst e
  unfold nb at hb
  simp at hb
theorem dp_le {L T : Nat → Int} {n : Nat} (hn : n ≤ 7) (hT : isT L T n (2 ^ n)) {o : List Nat} : ∀ {S v : Nat}, dm n S v → En S o → T (S * 8 + v) ≤ cst L v o := by
  induction o with
  | nil =>
    intro S v hd he
    have he0 : S = 0 := he
    rw [dm_T hT hd, he0]
    unfold sRst cst
    rw [if_pos rfl]
    omega
  | cons k o ih =>
    intro S v hd he
    obtain ⟨h1, h2, h3⟩ : k < 7 ∧ nb S k = 1 ∧ En (S - 2 ^ k) o := he
    have h4 := ih (dm_s hn hd h2) h3
    have h5 := sLst_le (L := L) (T := T) (v := v) (bit_lt hd.1 h2) h2
    rw [dm_T hT hd]
    unfold sRst cst
    rw [if_neg (nz_bit h2)]
    omega
def gr (L T num : Nat → Int) (n : Nat) : Nat → Nat → Nat → List Nat
  | 0, _, _ => []
  | j + 1, S, v => (sNx L T num S v n).toNat :: gr L T num n j (S - 2 ^ (sNx L T num S v n).toNat) (sNx L T num S v n).toNat
/-- one step of the least way -/
theorem dp_stp {L T num : Nat → Int} {n S v : Nat} (hn : n ≤ 7) (hL : inB L) (hT : isT L T n (2 ^ n)) (hd : dm n S v) (hz : S ≠ 0) (hf : T (S * 8 + v) < 1000000) : ¬ sNx L T num S v n = -1 ∧ nb S (sNx L T num S v n).toNat = 1 ∧ T ((S - 2 ^ (sNx L T num S v n).toNat) * 8 + (sNx L T num S v n).toNat) < 1000000 := by
  have h1 := dm_T hT hd
  unfold sRst at h1
  rw [if_neg hz] at h1
  obtain ⟨k, h2, h3, h4⟩ := sLst_at (by omega : sLst L T S v n < 1000000)
  obtain ⟨h5, -⟩ := sNx_no (num := num) h2 h3 (by omega : L (v * 8 + k) + T ((S - 2 ^ k) * 8 + k) = T (S * 8 + v))
  have h6 := sNx_eq h5
  have h7 := hL (v * 8 + (sNx L T num S v n).toNat)
  exact ⟨h5, (sNx_b n).2.2 h5, by omega⟩
theorem dp_gr {L T : Nat → Int} {cq : Nat → Nat} {n : Nat} (hn : n ≤ 7) (hL : inB L) (hT : isT L T n (2 ^ n)) (hq : ∀ i j, i < n → j < n → cq i = cq j → i = j) {j : Nat} : ∀ {S v : Nat}, dm n S v → (F7 S).length = j → T (S * 8 + v) < 1000000 → En S (gr L T (fun k => ((cq k : Nat) : Int)) n j S v) ∧ cst L v (gr L T (fun k => ((cq k : Nat) : Int)) n j S v) = T (S * 8 + v) ∧ ∀ o', En S o' → cst L v o' = T (S * 8 + v) → lx ((gr L T (fun k => ((cq k : Nat) : Int)) n j S v).map cq) (o'.map cq) := by
  induction j with
  | zero =>
    intro S v hd hc hf
    have h2 := p2_le hn
    have h3 := hd.1
    have hz : S = 0 := (F7_nil S (by omega)).mp (List.eq_nil_of_length_eq_zero hc)
    refine ⟨hz, ?_, fun o' _ _ => trivial⟩
    rw [dm_T hT hd]
    unfold sRst
    rw [if_pos hz]
    rfl
  | succ j ih =>
    intro S v hd hc hf
    have h2 := p2_le hn
    have h3 := hd.1
    have hz : S ≠ 0 := by
      intro e
      rw [(F7_nil S (by omega)).mpr e] at hc
      cases hc
    obtain ⟨g1, g2, g3⟩ := dp_stp (num := fun k => ((cq k : Nat) : Int)) hn hL hT hd hz hf
    have g4 := sNx_eq g1
    have g5 := bit_lt hd.1 g2
    have g6 := F7_len S (by omega) _ (by omega) g2
    have gm : ∀ k', k' < n → nb S k' = 1 → L (v * 8 + k') + T ((S - 2 ^ k') * 8 + k') = T (S * 8 + v) → cq (sNx L T (fun k => ((cq k : Nat) : Int)) S v n).toNat ≤ cq k' := by
      intro k' q1 q2 q3
      have := (sNx_no (num := fun k => ((cq k : Nat) : Int)) q1 q2 q3).2
      omega
    unfold gr
    generalize (sNx L T (fun k => ((cq k : Nat) : Int)) S v n).toNat = k at g2 g3 g4 g5 g6 gm ⊢
    obtain ⟨i1, i2, i3⟩ := ih (dm_s hn hd g2) (by omega) g3
    refine ⟨⟨by omega, g2, i1⟩, ?_, ?_⟩
    · show L (v * 8 + k) + cst L k _ = _
      rw [i2]
      exact g4
    · intro o' ho hc'
      cases o' with
      | nil => exact absurd ho hz
      | cons k' o'' =>
        obtain ⟨q1, q2, q3⟩ : k' < 7 ∧ nb S k' = 1 ∧ En (S - 2 ^ k') o'' := ho
        have q4 : L (v * 8 + k') + cst L k' o'' = T (S * 8 + v) := hc'
        have q5 := dp_le hn hT (dm_s hn hd q2) q3
        have q6 := bit_lt hd.1 q2
        have q7 := sLst_le (L := L) (T := T) (v := v) q6 q2
        have q8 := dm_T hT hd
        unfold sRst at q8
        rw [if_neg hz] at q8
        have q9 := gm k' q6 q2 (by omega)
        show cq k < cq k' ∨ (cq k = cq k' ∧ lx (List.map cq (gr L T (fun k => ((cq k : Nat) : Int)) n j (S - 2 ^ k) k)) (List.map cq o''))
        by_cases e : cq k = cq k'
        · have e2 := hq k k' g5 q6 e
          subst e2
          exact Or.inr ⟨rfl, i3 o'' q3 (by omega)⟩
        · exact Or.inl (by omega)
/-- the steps of fill are such a way -/
theorem dp_sv {L T num : Nat → Int} {n m : Nat} (hn : n ≤ 7) (hL : inB L) (hT : isT L T n (2 ^ n)) (hm : m ≤ n) (hf : T ((2 ^ m - 1) * 8 + 7) < 1000000) (k : Nat) (hk : k ≤ m) : dm n (sSv L T num n m k).1 (sSv L T num n m k).2 ∧ (F7 (sSv L T num n m k).1).length = m - k ∧ T ((sSv L T num n m k).1 * 8 + (sSv L T num n m k).2) < 1000000 := by
  induction k with
  | zero =>
    have h1 : 2 ^ m ≤ 2 ^ n := Nat.pow_le_pow_right (by decide) hm
    have h2 : 0 < 2 ^ m := Nat.pow_pos (by decide)
    refine ⟨⟨?_, Or.inl rfl⟩, ?_, hf⟩
    · show 2 ^ m - 1 < 2 ^ n
      omega
    · show (F7 (2 ^ m - 1)).length = m - 0
      rw [F7_ones m (by omega), List.length_range]
      omega
  | succ k ih =>
    obtain ⟨h1, h2, h3⟩ := ih (by omega)
    have h4 := p2_le hn
    have h5 := h1.1
    have hz : (sSv L T num n m k).1 ≠ 0 := by
      intro e
      rw [(F7_nil _ (by omega)).mpr e] at h2
      rw [List.length_nil] at h2
      omega
    obtain ⟨g1, g2, g3⟩ := dp_stp (num := num) hn hL hT h1 hz h3
    have g6 := F7_len _ (by omega) _ (by have := bit_lt h1.1 g2; omega) g2
    refine ⟨dm_s hn h1 g2, ?_, g3⟩
    show (F7 ((sSv L T num n m k).1 - 2 ^ (sNx L T num (sSv L T num n m k).1 (sSv L T num n m k).2 n).toNat)).length = m - (k + 1)
    omega
theorem dp_hw {L T num : Nat → Int} {n m : Nat} (hn : n ≤ 7) (hL : inB L) (hT : isT L T n (2 ^ n)) (hm : m ≤ n) (hf : T ((2 ^ m - 1) * 8 + 7) < 1000000) (k : Nat) (hk : k < m) : ¬ sStep L T num n m k = -1 := by
  obtain ⟨h1, h2, h3⟩ := dp_sv (num := num) hn hL hT hm hf k (by omega)
  have h4 := p2_le hn
  have h5 := h1.1
  have hz : (sSv L T num n m k).1 ≠ 0 := by
    intro e
    rw [(F7_nil _ (by omega)).mpr e] at h2
    rw [List.length_nil] at h2
    omega
  exact (dp_stp (num := num) hn hL hT h1 hz h3).1
theorem gr_st {L T num : Nat → Int} {n m : Nat} (i : Nat) : ∀ k, k + i < m → (gr L T num n (m - k) (sSv L T num n m k).1 (sSv L T num n m k).2).getD i 0 = (sStep L T num n m (k + i)).toNat := by
  induction i with
  | zero =>
    intro k hk
    rw [show m - k = (m - k - 1) + 1 by omega]
    rfl
  | succ i ih =>
    intro k hk
    have h := ih (k + 1) (by omega)
    rw [show m - k = (m - (k + 1)) + 1 by omega, show k + (i + 1) = k + 1 + i by omega, ← h]
    rfl
theorem gr_len {L T num : Nat → Int} {n : Nat} (j : Nat) : ∀ S v, (gr L T num n j S v).length = j := by
  induction j with
  | zero => intro S v; rfl
  | succ j ih => intro S v; unfold gr; rw [List.length_cons, ih]
