/-! WHO MAY BE CHOSEN -/
theorem up_comm {M : Wm} {a b : Nat} {x y : Option va_E} (h : a ≠ b) : va_up (va_up M a x) b y = va_up (va_up M b y) a x := by
  funext j
  unfold va_up
  by_cases h1 : j = b
  · subst h1
    simp [Ne.symm h]
  · simp [h1]
def el (nl : Nat) (lf : Nat → Nat → Int) (ph u : Nat → Int) (dy : Int) (pp tt : Nat → Nat → Int) (k : Nat) : Bool := decide (sDue (tt k) ≤ dy) && decide (sBit (u 0) (tt k 0) = 1) && decide (¬ sWay nl lf ph (pp k) = -1)
theorem el_iff {nl : Nat} {lf : Nat → Nat → Int} {ph u : Nat → Int} {dy : Int} {pp tt : Nat → Nat → Int} {k : Nat} : el nl lf ph u dy pp tt k = true ↔ sDue (tt k) ≤ dy ∧ sBit (u 0) (tt k 0) = 1 ∧ ¬ sWay nl lf ph (pp k) = -1 := by
  unfold el
  simp [and_assoc]
theorem tk_1 {L : List Nat} {i : Nat} (h : i < L.length) : L.take (i + 1) = L.take i ++ [L.getD i 0] := by
  rw [List.take_add_one, List.getD_eq_getElem?_getD, List.getElem?_eq_getElem h]
  rfl
theorem fl_1 {L : List Nat} {i : Nat} {f : Nat → Bool} (h : i < L.length) : (L.take (i + 1)).filter f = if f (L.getD i 0) = true then (L.take i).filter f ++ [L.getD i 0] else (L.take i).filter f := by
  rw [tk_1 h, List.filter_append]
  by_cases q : f (L.getD i 0) = true
  · rw [if_pos q, List.filter_cons_of_pos q]; rfl
  · rw [if_neg q, List.filter_cons_of_neg q, List.filter_nil, List.append_nil]
theorem fl_7 {L : List Nat} {i : Nat} {f : Nat → Bool} (h : ((L.take i).filter f).length ≤ 7) (h2 : L.length ≤ i ∨ 7 ≤ ((L.take i).filter f).length) : (L.take i).filter f = (L.filter f).take 7 := by
  rcases h2 with h2 | h2
  · rw [List.take_of_length_le h2] at h ⊢
    rw [List.take_of_length_le h]
  · have e : L.filter f = (L.take i).filter f ++ (L.drop i).filter f := by rw [← List.filter_append, List.take_append_drop]
    rw [e, List.take_append_of_le_length h2]
    exact (List.take_of_length_le h).symm
theorem ap_getD {C : List Nat} {c k : Nat} : (C ++ [c]).getD k 0 = if k < C.length then C.getD k 0 else if k = C.length then c else 0 := by
  rw [List.getD_eq_getElem?_getD]
  by_cases h : k < C.length
  · rw [if_pos h, List.getElem?_append_left h, List.getD_eq_getElem?_getD]
  · rw [if_neg h, List.getElem?_append_right (by omega)]
    by_cases h2 : k = C.length
    · rw [if_pos h2, h2, Nat.sub_self]; rfl
    · rw [if_neg h2, show k - C.length = (k - C.length - 1) + 1 by omega, List.getElem?_cons_succ, List.getElem?_nil]; rfl
