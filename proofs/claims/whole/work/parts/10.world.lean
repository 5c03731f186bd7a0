/-! WORLDS BY ADDRESS: what is known of the cells is a function from addresses; a write is an update of it. -/
abbrev Wm : Type := Nat → Option va_E
/-- the heap holds all that M says, and all of it lies in A -/
def wd_ok (D : va_G) (cl : List vw_C) (A : Nat → Prop) (M : Wm) (H : Heap) : Prop := ∀ (q : Nat) (x : va_E), M q = some x → va_at D cl (q, x) H ∧ A q
def wd_ls (M : Wm) (n : Nat) : va_W := (List.range n).filterMap (fun q => (M q).map (fun x => (q, x)))
theorem wd_ls_mem {M : Wm} {n q : Nat} {x : va_E} : (q, x) ∈ wd_ls M n ↔ q < n ∧ M q = some x := by
  unfold wd_ls
  rw [List.mem_filterMap]
  constructor
  · rintro ⟨a, ha, h⟩
    rw [List.mem_range] at ha
    cases hm : M a with
    | none => rw [hm] at h; cases h
    | some z => rw [hm] at h; cases h; exact ⟨ha, hm⟩
  · rintro ⟨h1, h2⟩
    exact ⟨q, List.mem_range.mpr h1, by rw [h2]; rfl⟩
theorem wd_ls_pw (M : Wm) (n : Nat) : (wd_ls M n).Pairwise (fun a b => a.1 < b.1) := by
  unfold wd_ls
  rw [List.pairwise_filterMap]
  refine List.pairwise_lt_range.imp ?_
  intro a b hab x hx y hy
  cases ha : M a with
  | none => rw [ha] at hx; cases hx
  | some u =>
    cases hb : M b with
    | none => rw [hb] at hy; cases hy
    | some v => rw [ha] at hx; rw [hb] at hy; cases hx; cases hy; exact hab
theorem wd_ls_inj {M : Wm} {n : Nat} (i j : Nat) (a b : Nat × va_E) (hi : (wd_ls M n)[i]? = some a) (hj : (wd_ls M n)[j]? = some b) (h : a.1 = b.1) : i = j := by
  have hp := List.pairwise_iff_getElem.mp (wd_ls_pw M n)
  obtain ⟨li, ei⟩ := List.getElem?_eq_some_iff.mp hi
  obtain ⟨lj, ej⟩ := List.getElem?_eq_some_iff.mp hj
  rcases Nat.lt_trichotomy i j with q | q | q
  · have := hp i j li lj q
    rw [ei, ej] at this
    omega
  · exact q
  · have := hp j i lj li q
    rw [ei, ej] at this
    omega
theorem wd_ls_P {D : va_G} {cl : List vw_C} {A : Nat → Prop} {M : Wm} {H : Heap} (h : wd_ok D cl A M H) (n : Nat) : va_P D cl (wd_ls M n) H := by
  intro k q hq
  obtain ⟨a, x⟩ := q
  exact (h a x (wd_ls_mem.mp (List.mem_of_getElem? hq)).2).1
theorem wd_ls_D {D : va_G} {cl : List vw_C} {A : Nat → Prop} {M : Wm} {H : Heap} (h : wd_ok D cl A M H) (n : Nat) : va_D A (wd_ls M n) := by
  refine ⟨wd_ls_inj, ?_⟩
  intro k q hq
  obtain ⟨a, x⟩ := q
  exact (h a x (wd_ls_mem.mp (List.mem_of_getElem? hq)).2).2
theorem wd_ls_at {D : va_G} {cl : List vw_C} {A : Nat → Prop} {M : Wm} {H : Heap} (h : wd_ok D cl A M H) {a : Nat} {x : va_E} (ha : M a = some x) : ∃ k : Nat, (wd_ls M H.size)[k]? = some (a, x) := by
  have h1 : (a, x) ∈ wd_ls M H.size := wd_ls_mem.mpr ⟨(h a x ha).1.lt, ha⟩
  exact List.mem_iff_getElem?.mp h1
theorem wd_one {D : va_G} {cl : List vw_C} {A : Nat → Prop} {M : Wm} {H : Heap} (h : wd_ok D cl A M H) {a : Nat} {x : va_E} (ha : M a = some x) : va_P D cl [(a, x)] H := by
  intro k q hq
  cases k with
  | zero => cases hq; exact (h a x ha).1
  | succ k => simp at hq
theorem wd_set {D : va_G} {cl : List vw_C} {A : Nat → Prop} {M : Wm} {H H1 : Heap} (h : wd_ok D cl A M H) {a k : Nat} {x y : va_E} (ha : (wd_ls M H.size)[k]? = some (a, x)) (h1 : va_P D cl ((wd_ls M H.size).set k (a, y)) H1) : wd_ok D cl A (va_up M a (some y)) H1 := by
  have hk : k < (wd_ls M H.size).length := (List.getElem?_eq_some_iff.mp ha).1
  intro q z hz
  unfold va_up at hz
  by_cases e : q = a
  · rw [if_pos e] at hz
    cases hz
    subst e
    exact ⟨h1 k _ (by rw [List.getElem?_set_self hk]), (h q x (wd_ls_mem.mp (List.mem_of_getElem? ha)).2).2⟩
  · rw [if_neg e] at hz
    obtain ⟨j, hj⟩ := wd_ls_at h hz
    have hne : k ≠ j := by
      intro e2
      subst e2
      rw [ha] at hj
      cases hj
      exact e rfl
    exact ⟨h1 j _ (by rw [List.getElem?_set_ne hne]; exact hj), (h q z hz).2⟩
theorem wd_push {D : va_G} {cl : List vw_C} {A : Nat → Prop} {M : Wm} {H H1 : Heap} (h : wd_ok D cl A M H) {a : Nat} {y : va_E} (h1 : va_P D cl (wd_ls M H.size ++ [(a, y)]) H1) (h2 : va_D A (wd_ls M H.size ++ [(a, y)])) : wd_ok D cl A (va_up M a (some y)) H1 ∧ M a = none := by
  have hl : (wd_ls M H.size ++ [(a, y)])[(wd_ls M H.size).length]? = some (a, y) := by simp
  refine ⟨?_, ?_⟩
  · intro q z hz
    unfold va_up at hz
    by_cases e : q = a
    · rw [if_pos e] at hz
      cases hz
      subst e
      exact ⟨h1 _ _ hl, h2.2 _ _ hl⟩
    · rw [if_neg e] at hz
      obtain ⟨j, hj⟩ := wd_ls_at h hz
      have hlt : j < (wd_ls M H.size).length := (List.getElem?_eq_some_iff.mp hj).1
      exact ⟨h1 j _ (by rw [List.getElem?_append_left hlt]; exact hj), (h q z hz).2⟩
  · cases hm : M a with
    | none => rfl
    | some z =>
      obtain ⟨j, hj⟩ := wd_ls_at h hm
      have hlt : j < (wd_ls M H.size).length := (List.getElem?_eq_some_iff.mp hj).1
      have := h2.1 j _ (a, z) _ (by rw [List.getElem?_append_left hlt]; exact hj) hl rfl
      omega
/-- a world of which less is known -/
theorem wd_ok.less {D : va_G} {cl : List vw_C} {A : Nat → Prop} {M M' : Wm} {H : Heap} (h : wd_ok D cl A M H) (hl : ∀ q x, M' q = some x → M q = some x) : wd_ok D cl A M' H := fun q x hx => h q x (hl q x hx)
theorem wd_up_s {M : Wm} {a : Nat} {x : Option va_E} : va_up M a x a = x := by unfold va_up; exact if_pos rfl
theorem wd_up_n {M : Wm} {a b : Nat} {x : Option va_E} (h : b ≠ a) : va_up M a x b = M b := by unfold va_up; exact if_neg h
