/-! THE LAW'S BODY, from its first row to the loop -/
theorem up_mj {M : Wm} {q : Nat} {y : va_E} (h : M q = none) : ∀ (a : Nat) (z : va_E), mj (va_up (fun _ => none) q (some y)) M a = some z → va_up M q (some y) a = some z := by
  intro a z hz
  by_cases e : a = q
  · subst e
    rw [wd_up_s]
    rw [mj_n h, wd_up_s] at hz
    exact hz
  · rw [wd_up_n e]
    rcases mj_x hz with g | ⟨_, g⟩
    · exact g
    · rw [wd_up_n e] at g
      cases g
theorem up_dj {M : Wm} {q : Nat} {y : va_E} (h : M q = none) : dj (va_up (fun _ => none) q (some y)) M := by
  intro a
  by_cases e : a = q
  · subst e
    exact Or.inr h
  · exact Or.inl (wd_up_n e)
theorem out_mj {tys : xK} {Mm Mc : Wm} {ou : Nat} {f : Nat → Int64} : ∀ (a : Nat) (z : va_E), mj Mm (mj Mc (oU tys ou f)) a = some z → va_up (mj Mm Mc) ou (some (.inl (tc tys 1, 1, .inr (.inl f)))) a = some z := by
  intro a z hz
  by_cases e : a = ou
  · subst e
    rw [wd_up_s]
    rw [mj_r (mj_r oU_s)] at hz
    exact hz
  · rw [wd_up_n e]
    rcases mj_x hz with g | ⟨g0, g⟩
    · rw [mj_n (oU_n e)] at g
      exact mj_r g
    · rw [mj_n (oU_n e)] at g0
      rw [mj_n g0]
      exact g
theorem mj_none {P Q : Wm} {q : Nat} (h : mj P Q q = none) : P q = none ∧ Q q = none := by
  cases hq : Q q with
  | none => rw [mj_n hq] at h; exact ⟨h, rfl⟩
  | some y => rw [mj_r hq] at h; cases h
theorem out_dj {tys : xK} {Mm Mc : Wm} {ou : Nat} {f : Nat → Int64} (hd : dj Mm Mc) (h : mj Mm Mc ou = none) : dj Mm (mj Mc (oU tys ou f)) ∧ dj Mc (oU tys ou f) := by
  obtain ⟨h1, h2⟩ := mj_none h
  refine ⟨fun a => ?_, fun a => ?_⟩
  · by_cases e : a = ou
    · subst e
      exact Or.inl h1
    · rw [mj_n (oU_n e)]
      exact hd a
  · by_cases e : a = ou
    · subst e
      exact Or.inl h2
    · exact Or.inr (oU_n e)
theorem sNew_7 (r : Int) : sNew r 7 0 0 = 0 := by
  unfold sNew
  simp
theorem law_body {p : Program} {l : Launch} {e : Env} {s : State} {m : MethodId} {args : Array Value} {below : List Frame} {meth : Method} {c : Code} {Qg : State → Prop} {D : va_G} {A : Nat → Prop} {tys : xK} (C : cX p m meth c b_La_law 7 s args R_La D tys A) (hl0 : l.stackTraces = false) (hT : tyOK tys) (hL : cL s) {b L : Nat} {xs : Nat → Int32} (hX : va_X b L xs s s.heap) (hbl : b < s.heap.size) (hbA : ¬ A b) (hLN : L ≤ 3585)
    (KE : ∀ (t : Nat) (lv : List (Nat × Value)) (M : Wm), t ≤ 600 → gW p l e room_1 s m args below meth c D A 7 (43 + t) (1903 + 11 * t) Qg wX 1274 lv [] M) :
    gW p l e room_1 s m args below meth c D A 7 0 0 Qg wX 0 [(0, .ref b)] [] (fun _ => none) := by
  have hLL : L < 2147483648 := by omega
  refine g_new C nw_La_8 ⟨Nat.le_of_ble_eq_true rfl, Nat.le_of_ble_eq_true rfl⟩ d_La_law_0 (fun x hx => ?_)
  refine g_dup C rfl d_La_law_3 ?_
  refine g_aload_n C d_La_law_4 0 rfl ?_
  refine g_iconst C d_La_law_5 ?_
  refine g_cell C hX hbl hbA hLL ⟨by omega, by omega⟩ ⟨Nat.le_of_ble_eq_true rfl, Nat.le_of_ble_eq_true rfl, Nat.le_of_ble_eq_true rfl, Nat.le_of_ble_eq_true rfl⟩ (Nat.le_of_ble_eq_true rfl) d_La_law_6 ?_
  refine g_callv C (run_I C [.int (iI (cV L xs 0))] k_La_72 (ct_Ct_init l D tys A _ hT x (cV L xs 0) cV_rng wd_up_s) ⟨rfl, rfl, Nat.le_of_ble_eq_true rfl, Nat.le_of_ble_eq_true rfl⟩ rfl rfl (Nat.le_of_ble_eq_true rfl) d_La_law_9 ⟨Nat.le_of_ble_eq_true rfl, Nat.le_of_ble_eq_true rfl⟩) (fun Mc hRC => ?_)
  refine g_astore_n (lv' := [(1, .ref x), (0, .ref b)]) C d_La_law_12 (by decide) rfl ?_
  refine g_new C nw_La_75 ⟨Nat.le_of_ble_eq_true rfl, Nat.le_of_ble_eq_true rfl⟩ d_La_law_13 (fun md hmd => ?_)
  refine g_less (up_mj hmd) ?_
  refine g_dup C rfl d_La_law_16 ?_
  refine g_aload_n C d_La_law_17 1 rfl ?_
  refine g_iconst C d_La_law_18 ?_
  refine g_cell C hX hbl hbA hLL ⟨by omega, by omega⟩ ⟨Nat.le_of_ble_eq_true rfl, Nat.le_of_ble_eq_true rfl, Nat.le_of_ble_eq_true rfl, Nat.le_of_ble_eq_true rfl⟩ (Nat.le_of_ble_eq_true rfl) d_La_law_19 ?_
  refine g_callvF C (run_IF C (up_dj hmd) [.int (iI (cV L xs 0))] k_La_77 (ct_Mo_init l D tys (Af A Mc) _ hT md (cV L xs 0) cV_rng wd_up_s) ⟨rfl, rfl, Nat.le_of_ble_eq_true rfl, Nat.le_of_ble_eq_true rfl⟩ rfl rfl (Nat.le_of_ble_eq_true rfl) d_La_law_22 ⟨Nat.le_of_ble_eq_true rfl, Nat.le_of_ble_eq_true rfl⟩) (fun Mm hRM hdj => ?_)
  refine g_astore_n (lv' := [(2, .ref md), (1, .ref x), (0, .ref b)]) C d_La_law_25 (by decide) rfl ?_
  refine g_iconst C d_La_law_26 ?_
  refine g_newL C 1 hT.2.1 1 ac_long ⟨rfl, by decide⟩ ⟨Nat.le_of_ble_eq_true rfl, Nat.le_of_ble_eq_true rfl⟩ d_La_law_27 (fun ou hou => ?_)
  refine g_less out_mj ?_
  obtain ⟨hd1, hd2⟩ := out_dj (tys := tys) (f := fun _ => 0) hdj hou
  refine g_astore_n (lv' := [(3, .ref ou), (2, .ref md), (1, .ref x), (0, .ref b)]) C d_La_law_29 (by decide) rfl ?_
  refine g_iconst C d_La_law_30 ?_
  refine g_istore (lv' := lvL b x md ou 1) C d_La_law_31 (by decide) rfl ?_
  exact g_widen (by omega) (by omega) (law_loop C hl0 hT hL hX hbl hbA hLN KE (L + 8) 0 1 Mc Mm (fun _ => 0) (sNew (sRate (cV L xs 0))) 0 (by omega) (by omega) (by omega) hRC hRM hd1 hd2 (by rw [sNew_7]; exact Int.le_refl _))
