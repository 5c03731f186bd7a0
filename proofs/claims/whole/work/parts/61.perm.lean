/-! ORDERS ONE AFTER THE OTHER -/
def ll : List Nat → List Nat → Prop
  | [], _ => False
  | _ :: _, [] => False
  | a :: o, b :: o' => a < b ∨ (a = b ∧ ll o o')
theorem lx_rf : ∀ o : List Nat, lx o o
  | [] => trivial
  | a :: o => Or.inr ⟨rfl, lx_rf o⟩
theorem lx_or : ∀ {o o' : List Nat}, o.length = o'.length → lx o o' → o = o' ∨ ll o o'
  | [], [], _, _ => Or.inl rfl
  | a :: o, b :: o', hl, h => by
    rcases h with h | ⟨h1, h2⟩
    · exact Or.inr (Or.inl h)
    · rcases lx_or (by simpa using hl) h2 with q | q
      · exact Or.inl (by rw [h1, q])
      · exact Or.inr (Or.inr ⟨h1, q⟩)
theorem ll_lx : ∀ {o o' : List Nat}, ll o o' → lx o o'
  | [], _, h => h.elim
  | _ :: _, [], h => h.elim
  | a :: o, b :: o', h => by
    rcases h with h | ⟨h1, h2⟩
    · exact Or.inl h
    · exact Or.inr ⟨h1, ll_lx h2⟩
theorem ll_no : ∀ {o o' : List Nat}, ll o o' → lx o' o → False
  | [], _, h, _ => h
  | _ :: _, [], h, _ => h
  | a :: o, b :: o', h, g => by
    rcases h with h | ⟨h1, h2⟩
    · rcases g with g | ⟨g1, -⟩ <;> omega
    · rcases g with g | ⟨-, g2⟩
      · omega
      · exact ll_no h2 g2
theorem lx_ll : ∀ {o p q : List Nat}, lx o p → ll p q → o.length = p.length → ll o q
  | [], [], _, _, h, _ => h
  | [], _ :: _, _, _, _, hl => by simp at hl
  | _ :: _, [], _, h, _, _ => h.elim
  | _ :: _, _ :: _, [], _, h, _ => h.elim
  | a :: o, b :: p, c :: q, h, g, hl => by
    rcases h with h | ⟨h1, h2⟩
    · rcases g with g | ⟨g1, -⟩
      · exact Or.inl (by omega)
      · exact Or.inl (by omega)
    · rcases g with g | ⟨g1, g2⟩
      · exact Or.inl (by omega)
      · exact Or.inr ⟨by omega, lx_ll h2 g2 (by simpa using hl)⟩
theorem mx : ∀ {dec q : List Nat}, dec.Pairwise (fun a b => b < a) → q.Perm dec → lx q dec
  | [], q, _, h => by rw [h.eq_nil]; trivial
  | d :: ds, [], _, _ => trivial
  | d :: ds, b :: q, hd, h => by
    obtain ⟨h1, h2⟩ := List.pairwise_cons.mp hd
    have hb : b ∈ d :: ds := h.mem_iff.mp List.mem_cons_self
    rcases List.mem_cons.mp hb with rfl | hb
    · exact Or.inr ⟨rfl, mx h2 h.cons_inv⟩
    · exact Or.inl (h1 b hb)
theorem mn : ∀ {inc q : List Nat}, inc.Pairwise (fun a b => a < b) → q.Perm inc → lx inc q
  | [], q, _, h => trivial
  | d :: ds, [], _, h => by
    have := h.length_eq
    simp at this
  | d :: ds, b :: q, hd, h => by
    obtain ⟨h1, h2⟩ := List.pairwise_cons.mp hd
    have hb : b ∈ d :: ds := h.mem_iff.mp List.mem_cons_self
    rcases List.mem_cons.mp hb with rfl | hb
    · exact Or.inr ⟨rfl, mn h2 h.cons_inv⟩
    · exact Or.inl (h1 b hb)
/-- o' is the one behind o -/
def SC (o o' : List Nat) : Prop := ll o o' ∧ o'.Perm o ∧ ∀ p : List Nat, p.Perm o → lx p o ∨ lx o' p
theorem SC_cons {x : Nat} {t t' : List Nat} (h : SC t t') : SC (x :: t) (x :: t') := by
  obtain ⟨h1, h2, h3⟩ := h
  refine ⟨Or.inr ⟨rfl, h1⟩, h2.cons x, fun p hp => ?_⟩
  cases p with
  | nil => exact Or.inl trivial
  | cons b q =>
    rcases Nat.lt_trichotomy b x with e | e | e
    · exact Or.inl (Or.inl e)
    · subst e
      rcases h3 q hp.cons_inv with g | g
      · exact Or.inl (Or.inr ⟨rfl, g⟩)
      · exact Or.inr (Or.inr ⟨rfl, g⟩)
    · exact Or.inr (Or.inl e)
theorem SC_base {x y : Nat} {dec inc : List Nat} (hd : dec.Pairwise (fun a b => b < a)) (hi : inc.Pairwise (fun a b => a < b)) (hxy : x < y) (hy : ∀ z, z ∈ dec → x < z → y ≤ z) (hp : (y :: inc).Perm (x :: dec)) : SC (x :: dec) (y :: inc) := by
  refine ⟨Or.inl hxy, hp, fun p h => ?_⟩
  cases p with
  | nil => exact Or.inl trivial
  | cons b q =>
    rcases Nat.lt_trichotomy b x with e | e | e
    · exact Or.inl (Or.inl e)
    · subst e
      exact Or.inl (Or.inr ⟨rfl, mx hd h.cons_inv⟩)
    · have hb : b ∈ x :: dec := h.mem_iff.mp List.mem_cons_self
      rcases List.mem_cons.mp hb with rfl | hb
      · omega
      · have h1 := hy b hb e
        by_cases q1 : y = b
        · subst q1
          exact Or.inr (Or.inr ⟨rfl, mn hi (h.trans hp.symm).cons_inv⟩)
        · exact Or.inr (Or.inl (by omega))
/-- a number for an order: it grows from one to the next -/
def vl : List Nat → Nat
  | [] => 0
  | a :: t => a * 40 ^ t.length + vl t
theorem vl_lt : ∀ {o : List Nat}, (∀ a, a ∈ o → a < 40) → vl o < 40 ^ o.length
  | [], _ => by decide
  | a :: t, h => by
    have h1 := vl_lt (o := t) (fun b hb => h b (List.mem_cons_of_mem _ hb))
    have h2 := h a List.mem_cons_self
    show a * 40 ^ t.length + vl t < 40 ^ (t.length + 1)
    rw [Nat.pow_succ]
    have h3 : a * 40 ^ t.length ≤ 39 * 40 ^ t.length := Nat.mul_le_mul_right _ (by omega)
    omega
theorem ll_vl : ∀ {o o' : List Nat}, o.length = o'.length → (∀ a, a ∈ o → a < 40) → ll o o' → vl o < vl o'
  | [], _, _, _, h => h.elim
  | _ :: _, [], _, _, h => h.elim
  | a :: t, b :: t', hl, h, g => by
    have hl2 : t.length = t'.length := by simpa using hl
    show a * 40 ^ t.length + vl t < b * 40 ^ t'.length + vl t'
    rw [← hl2]
    rcases g with g | ⟨g1, g2⟩
    · have h1 := vl_lt (o := t) (fun b hb => h b (List.mem_cons_of_mem _ hb))
      have h3 : (a + 1) * 40 ^ t.length ≤ b * 40 ^ t.length := Nat.mul_le_mul_right _ (by omega)
      rw [Nat.add_mul, Nat.one_mul] at h3
      omega
    · have := ll_vl hl2 (fun b hb => h b (List.mem_cons_of_mem _ hb)) g2
      rw [g1]
      omega
/-! lists by their places -/
def sf (u : Nat → Nat) (i n : Nat) : List Nat := (List.range' i (n - i)).map u
theorem sf_s {u : Nat → Nat} {i n : Nat} (h : i < n) : sf u i n = u i :: sf u (i + 1) n := by
  unfold sf
  rw [show n - i = (n - (i + 1)) + 1 by omega, List.range'_succ, List.map_cons]
theorem sf_len {u : Nat → Nat} {i n : Nat} : (sf u i n).length = n - i := by
  unfold sf
  rw [List.length_map, List.length_range']
theorem sf_mem {u : Nat → Nat} {i n z : Nat} : z ∈ sf u i n ↔ ∃ k, i ≤ k ∧ k < n ∧ u k = z := by
  unfold sf
  rw [List.mem_map]
  constructor
  · rintro ⟨k, h1, h2⟩
    rw [List.mem_range'_1] at h1
    exact ⟨k, by omega, by omega, h2⟩
  · rintro ⟨k, h1, h2, h3⟩
    exact ⟨k, by rw [List.mem_range'_1]; omega, h3⟩
theorem sf_get {u : Nat → Nat} {n k : Nat} (h : k < n) : (sf u 0 n).getD k 0 = u k := by
  unfold sf
  rw [List.getD_eq_getElem?_getD, List.getElem?_map, List.getElem?_range' (by omega)]
  simp
theorem sf_pw {u : Nat → Nat} {i n : Nat} {r : Nat → Nat → Prop} (h : ∀ a b, i ≤ a → a < b → b < n → r (u a) (u b)) : (sf u i n).Pairwise r := by
  unfold sf
  rw [List.pairwise_map, List.pairwise_iff_getElem]
  intro a b ha hb hab
  rw [List.length_range'] at ha hb
  rw [List.getElem_range', List.getElem_range']
  exact h _ _ (by omega) (by omega) (by omega)
theorem sf_cg {u v : Nat → Nat} {i n : Nat} (h : ∀ k, i ≤ k → k < n → u k = v k) : sf u i n = sf v i n := by
  unfold sf
  refine List.map_congr_left (fun k hk => ?_)
  rw [List.mem_range'_1] at hk
  exact h k (by omega) (by omega)
/-- the order behind u: i and j change their places, then what is behind i is turned round -/
def nxu (u : Nat → Nat) (n i j k : Nat) : Nat := if k < i then u k else if k = i then u j else if n + i - k = j then u i else u (n + i - k)
def nxs (n i j k : Nat) : Nat := if k < i then k else if n ≤ k then k else if k = i then j else if n + i - k = j then i else n + i - k
theorem nxs_inj {n i j : Nat} (hj : i < j ∧ j < n) {a b : Nat} (h : nxs n i j a = nxs n i j b) : a = b := by
  unfold nxs at h
  split at h <;> split at h <;> (try omega) <;> (repeat' split at h) <;> omega
theorem nxs_perm {n i j : Nat} (hj : i < j ∧ j < n) : ((List.range' i (n - i)).map (nxs n i j)).Perm (List.range' i (n - i)) := by
  have hn : (List.range' i (n - i)).Nodup := List.nodup_range'
  refine (List.perm_ext_iff_of_nodup ?_ hn).mpr (fun a => ?_)
  · show List.Pairwise (fun a b => a ≠ b) _
    rw [List.pairwise_map]
    exact hn.imp (fun h e => h (nxs_inj hj e))
  · rw [List.mem_map, List.mem_range'_1]
    constructor
    · rintro ⟨k, h1, h2⟩
      rw [List.mem_range'_1] at h1
      unfold nxs at h2
      repeat' split at h2
      all_goals omega
    · intro ha
      by_cases e1 : a = j
      · refine ⟨i, by rw [List.mem_range'_1]; omega, ?_⟩
        unfold nxs
        rw [if_neg (by omega), if_neg (by omega), if_pos rfl, e1]
      · by_cases e2 : a = i
        · refine ⟨n + i - j, by rw [List.mem_range'_1]; omega, ?_⟩
          unfold nxs
          rw [if_neg (by omega), if_neg (by omega), if_neg (by omega), if_pos (by omega), e2]
        · refine ⟨n + i - a, by rw [List.mem_range'_1]; omega, ?_⟩
          unfold nxs
          rw [if_neg (by omega), if_neg (by omega), if_neg (by omega), if_neg (by omega)]
          omega
theorem dec_lt {u : Nat → Nat} {i n : Nat} (h : ∀ k, i < k → k + 1 < n → u (k + 1) < u k) (a : Nat) : ∀ d, i < a → a + d + 1 < n → u (a + d + 1) < u a := by
  intro d
  induction d with
  | zero => intro h1 h2; exact h a h1 h2
  | succ d ih =>
    intro h1 h2
    have g1 := ih h1 (by omega)
    have g2 := h (a + d + 1) (by omega) (by omega)
    exact Nat.lt_trans g2 g1
theorem next_ok {u : Nat → Nat} {n i j : Nat} (hj : i < j ∧ j < n) (hdec : ∀ k, i < k → k + 1 < n → u (k + 1) < u k) (hij : u i < u j) (hjl : ∀ k, j < k → k < n → u k < u i) : SC (sf u 0 n) (sf (nxu u n i j) 0 n) := by
  have hd : ∀ a b, i < a → a < b → b < n → u b < u a := by
    intro a b h1 h2 h3
    have := dec_lt hdec a (b - a - 1) h1 (by omega)
    rwa [show a + (b - a - 1) + 1 = b by omega] at this
  have key : ∀ d, d ≤ i → SC (sf u (i - d) n) (sf (nxu u n i j) (i - d) n) := by
    intro d
    induction d with
    | zero =>
      intro _
      rw [Nat.sub_zero, sf_s (show i < n by omega), sf_s (u := nxu u n i j) (show i < n by omega)]
      have ey : nxu u n i j i = u j := by
        unfold nxu
        rw [if_neg (by omega), if_pos rfl]
      have hp : (sf (nxu u n i j) i n).Perm (sf u i n) := by
        have e : sf (nxu u n i j) i n = ((List.range' i (n - i)).map (nxs n i j)).map u := by
          unfold sf
          rw [List.map_map]
          refine List.map_congr_left (fun k hk => ?_)
          rw [List.mem_range'_1] at hk
          show nxu u n i j k = u (nxs n i j k)
          unfold nxu nxs
          rw [if_neg (show ¬ k < i by omega), if_neg (show ¬ k < i by omega), if_neg (show ¬ n ≤ k by omega)]
          by_cases q1 : k = i
          · rw [if_pos q1, if_pos q1]
          · rw [if_neg q1, if_neg q1]
            by_cases q2 : n + i - k = j
            · rw [if_pos q2, if_pos q2]
            · rw [if_neg q2, if_neg q2]
        rw [e]
        exact (nxs_perm hj).map u
      rw [sf_s (u := nxu u n i j) (show i < n by omega), sf_s (u := u) (show i < n by omega)] at hp
      refine SC_base (sf_pw (fun a b h1 h2 h3 => hd a b (by omega) h2 h3)) (sf_pw (fun a b h1 h2 h3 => ?_)) (by rw [ey]; exact hij) (fun z hz hxz => ?_) hp
      · unfold nxu
        rw [if_neg (show ¬ a < i by omega), if_neg (show ¬ b < i by omega), if_neg (show ¬ a = i by omega), if_neg (show ¬ b = i by omega)]
        by_cases q1 : n + i - a = j
        · rw [if_pos q1, if_neg (by omega)]
          have := hd (n + i - b) j (by omega) (by omega) hj.2
          omega
        · rw [if_neg q1]
          by_cases q2 : n + i - b = j
          · rw [if_pos q2]
            exact hjl _ (by omega) (by omega)
          · rw [if_neg q2]
            exact hd _ _ (by omega) (by omega) (by omega)
      · rw [ey]
        obtain ⟨k, h1, h2, h3⟩ := sf_mem.mp hz
        rcases Nat.lt_trichotomy k j with q | q | q
        · have := hd k j (by omega) q hj.2
          omega
        · subst q; omega
        · have := hjl k q h2
          omega
    | succ d ih =>
      intro hdi
      have h := ih (by omega)
      rw [sf_s (show i - (d + 1) < n by omega), sf_s (u := nxu u n i j) (show i - (d + 1) < n by omega), show i - (d + 1) + 1 = i - d by omega]
      have e : nxu u n i j (i - (d + 1)) = u (i - (d + 1)) := by
        unfold nxu
        rw [if_pos (by omega)]
      rw [e]
      exact SC_cons h
  have := key i (Nat.le_refl i)
  rwa [Nat.sub_self] at this
def swu (u : Nat → Nat) (i j k : Nat) : Nat := if k = i then u j else if k = j then u i else u k
/-- while what is behind i is turned round -/
def rvu (u : Nat → Nat) (n i j c k : Nat) : Nat := if (i < k ∧ k < i + 1 + c) ∨ n - 1 - c < k then swu u i j (n + i - k) else swu u i j k
theorem rvu_0 {u : Nat → Nat} {n i j k : Nat} (hk : k < n) : rvu u n i j 0 k = swu u i j k := by
  unfold rvu
  rw [if_neg (by omega)]
theorem rvu_s {u : Nat → Nat} {n i j c : Nat} {g : Nat → Int} (hc : i + 1 + c < n - 1 - c) (hg : ∀ k, k < n → g k = ((rvu u n i j c k : Nat) : Int)) (k : Nat) (hk : k < n) : va_up (va_up g (i + 1 + c) (g (n - 1 - c))) (n - 1 - c) (g (i + 1 + c)) k = ((rvu u n i j (c + 1) k : Nat) : Int) := by
  by_cases e1 : k = n - 1 - c
  · subst e1
    rw [iu_s, hg _ (by omega)]
    unfold rvu
    rw [if_neg (by omega), if_pos (by omega), show n + i - (n - 1 - c) = i + 1 + c by omega]
  · rw [iu_n e1]
    by_cases e2 : k = i + 1 + c
    · subst e2
      rw [iu_s, hg _ (by omega)]
      unfold rvu
      rw [if_neg (by omega), if_pos (by omega), show n + i - (i + 1 + c) = n - 1 - c by omega]
    · rw [iu_n e2, hg k hk]
      unfold rvu
      by_cases q : (i < k ∧ k < i + 1 + c) ∨ n - 1 - c < k
      · rw [if_pos q, if_pos (by omega)]
      · rw [if_neg q, if_neg (by omega)]
theorem rvu_e {u : Nat → Nat} {n i j c k : Nat} (hj : i < j ∧ j < n) (hc : i + 1 + 2 * c ≤ n) (he : n - 1 - c ≤ i + 1 + c) (hk : k < n) : rvu u n i j c k = nxu u n i j k := by
  unfold rvu nxu swu
  by_cases q1 : k < i
  · rw [if_pos q1, if_neg (by omega), if_neg (by omega), if_neg (by omega)]
  · rw [if_neg q1]
    by_cases q2 : k = i
    · rw [if_pos q2, if_neg (by omega), if_pos q2]
    · rw [if_neg q2, if_neg (show ¬ n + i - k = i by omega)]
      by_cases q3 : (i < k ∧ k < i + 1 + c) ∨ n - 1 - c < k
      · rw [if_pos q3, if_neg q2]
      · rw [if_neg q3, if_neg q2, show n + i - k = k by omega]
theorem sw_ok {u : Nat → Nat} {n i j : Nat} {g : Nat → Int} (hj : i < j ∧ j < n) (hg : ∀ k, k < n → g k = ((u k : Nat) : Int)) (k : Nat) (hk : k < n) : va_up (va_up g i (g j)) j (g i) k = ((swu u i j k : Nat) : Int) := by
  unfold swu
  by_cases e1 : k = j
  · subst e1
    rw [iu_s, if_neg (by omega), if_pos rfl]
    exact hg i (by omega)
  · rw [iu_n e1]
    by_cases e2 : k = i
    · subst e2
      rw [iu_s, if_pos rfl]
      exact hg j (by omega)
    · rw [iu_n e2, if_neg e2, if_neg e1]
      exact hg k hk
