/-! THE LAW'S LOOP, by how many calls are behind it -/
theorem law_loop {p : Program} {l : Launch} {e : Env} {s : State} {m : MethodId} {args : Array Value} {below : List Frame} {meth : Method} {c : Code} {Qg : State → Prop} {D : va_G} {A : Nat → Prop} {tys : xK} (C : cX p m meth c b_La_law 7 s args R_La D tys A) (hl0 : l.stackTraces = false) (hT : tyOK tys) (hL : cL s) {b L : Nat} {xs : Nat → Int32} (hX : va_X b L xs s s.heap) (hbl : b < s.heap.size) (hbA : ¬ A b) (hLN : L ≤ 3585) {x md ou : Nat}
    (KE : ∀ (t : Nat) (lv : List (Nat × Value)) (M : Wm), t ≤ 600 → gW p l e room_1 s m args below meth c D A 7 (43 + t) (1903 + 11 * t) Qg wX 1274 lv [] M) :
    ∀ (n t : Nat) (i : Int) (Mc Mm : Wm) (f : Nat → Int64) (sp : AS) (th : Int), L + 7 - 7 * t < n → i = 1 + 7 * (t : Int) → 7 * t ≤ L → RC tys Mc x sp → RM tys Mm md sp th → dj Mm (mj Mc (oU tys ou f)) → dj Mc (oU tys ou f) → sp 7 0 0 ≤ (t : Int) → gW p l e room_1 s m args below meth c D A 7 (43 + t) (1903 + 11 * t) Qg wX 33 (lvL b x md ou i) [] (mj Mm (mj Mc (oU tys ou f))) := by
  intro n
  induction n with
  | zero => intro t i Mc Mm f sp th h; exact absurd h (Nat.not_lt_zero _)
  | succ n ih =>
    intro t i Mc Mm f sp th hn hi ht hR hM hd1 hd2 h7
    have hLL : L < 2147483648 := by omega
    refine g_iload C d_La_law_33 0 rfl ?_
    refine g_aload_n C d_La_law_35 4 rfl ?_
    refine g_slen C hX hbl hbA d_La_law_36 ?_
    refine g_bipush C d_La_law_37 (by decide) ?_
    refine g_isub C d_La_law_39 ?_
    refine g_icmp_gt C 1274 d_La_law_40 (by decide) ⟨by omega, by omega⟩ (fun q => KE t _ _ (by omega)) (fun q => ?_)
    refine g_aload_n C d_La_law_43 4 rfl ?_
    refine g_iload C d_La_law_44 0 rfl ?_
    refine g_sld C hX hbl hbA ⟨by omega, by omega⟩ hLL d_La_law_46 ?_
    refine g_bipush C d_La_law_47 (by decide) ?_
    obtain ⟨w, hw, ew⟩ := and15 (iI (xs i.toNat).toInt)
    refine g_iand C w ew d_La_law_49 ?_
    have B : ∀ (Mc' Mm' : Wm) (f' : Nat → Int64) (s' : AS) (k r : Int), RC tys Mc' x s' → RM tys Mm' md s' k → dj Mm' (mj Mc' (oU tys ou f')) → dj Mc' (oU tys ou f') → s' 7 0 0 ≤ sp 7 0 0 + 1 → gW p l e room_1 s m args below meth c D A 7 (43 + t + 1) (1903 + 11 * t + 11) Qg wX 1268 ((6, .int (iI r)) :: (5, .int (iI k)) :: lvL b x md ou i) [] (mj Mm' (mj Mc' (oU tys ou f'))) := by
      intro Mc' Mm' f' s' k r h1 h2 h3 h4 h5
      refine g_iinc (lv' := (4, .int (iI (i + 7))) :: (6, .int (iI r)) :: (5, .int (iI k)) :: [(3, .ref ou), (2, .ref md), (1, .ref x), (0, .ref b)]) C d_La_law_1268 2 rfl (by decide) rfl ?_
      refine g_goto C 33 d_La_law_1271 (by decide) ?_
      refine g_sub [0, 3, 4, 5, 6] (lv' := lvL b x md ou (i + 7)) rfl ?_
      exact g_widen (by omega) (by omega) (ih (t + 1) (i + 7) Mc' Mm' f' s' k (by omega) (by omega) (by omega) h1 h2 h3 h4 (by omega))
    have hi2 : 0 ≤ i ∧ i + 7 ≤ (L : Int) := by omega
    have hrm : 43 + t + 1 ≤ 601024 ∧ 1903 + 11 * t + 11 ≤ 7293000 := by omega
    have hg7 : sp 7 0 0 < 600 := by omega
    have hwr : -2147483648 ≤ w ∧ w < 2147483648 := by omega
    have hor : w = 0 ∨ w = 1 ∨ w = 2 ∨ w = 3 ∨ w = 4 ∨ w = 5 ∨ w = 6 ∨ w = 7 ∨ w = 8 ∨ w = 9 ∨ w = 10 ∨ w = 11 ∨ w = 12 ∨ w = 13 ∨ w = 14 ∨ w = 15 := by omega
    rcases hor with rfl | rfl | rfl | rfl | rfl | rfl | rfl | rfl | rfl | rfl | rfl | rfl | rfl | rfl | rfl | rfl
    · exact g_tblI C (78) 128 hwr d_La_law_50 (by decide) (by decide) rfl (by decide) (cs_place C hl0 hT hL hX hbl hbA hLL hi2 hR hM hd1 hd2 hg7 hrm B)
    · exact g_tblI C (158) 208 hwr d_La_law_50 (by decide) (by decide) rfl (by decide) (cs_lift C hl0 hT hL hX hbl hbA hLL hi2 hR hM hd1 hd2 hg7 hrm B)
    · exact g_tblI C (276) 326 hwr d_La_law_50 (by decide) (by decide) rfl (by decide) (cs_part C hl0 hT hL hX hbl hbA hLL hi2 hR hM hd1 hd2 hg7 hrm B)
    · exact g_tblI C (394) 444 hwr d_La_law_50 (by decide) (by decide) rfl (by decide) (cs_person C hl0 hT hL hX hbl hbA hLL hi2 hR hM hd1 hd2 hg7 hrm B)
    · exact g_tblI C (474) 524 hwr d_La_law_50 (by decide) (by decide) rfl (by decide) (cs_used C hl0 hT hL hX hbl hbA hLL hi2 hR hM hd1 hd2 hg7 hrm B)
    · exact g_tblI C (554) 604 hwr d_La_law_50 (by decide) (by decide) rfl (by decide) (cs_stock C hl0 hT hL hX hbl hbA hLL hi2 hR hM hd1 hd2 hg7 hrm B)
    · exact g_tblI C (622) 672 hwr d_La_law_50 (by decide) (by decide) rfl (by decide) (cs_walk C hl0 hT hL hX hbl hbA hLL hi2 hR hM hd1 hd2 hg7 hrm B)
    · exact g_tblI C (690) 740 hwr d_La_law_50 (by decide) (by decide) rfl (by decide) (cs_tour C hl0 hT hL hX hbl hbA hLL hi2 hR hM hd1 hd2 hg7 hrm B)
    · exact g_tblI C (758) 808 hwr d_La_law_50 (by decide) (by decide) rfl (by decide) (cs_stop C hl0 hT hL hX hbl hbA hLL hi2 hR hM hd1 hd2 hg7 hrm B)
    · exact g_tblI C (814) 864 hwr d_La_law_50 (by decide) (by decide) rfl (by decide) (cs_told C hl0 hT hL hX hbl hbA hLL hi2 hR hM hd1 hd2 hg7 hrm B)
    · exact g_tblI C (870) 920 hwr d_La_law_50 (by decide) (by decide) rfl (by decide) (cs_put C hl0 hT hL hX hbl hbA hLL hi2 hR hM hd1 hd2 hg7 hrm B)
    · exact g_tblI C (926) 976 hwr d_La_law_50 (by decide) (by decide) rfl (by decide) (cs_done C hl0 hT hL hX hbl hbA hLL hi2 hR hM hd1 hd2 hg7 hrm B)
    · exact g_tblI C (970) 1020 hwr d_La_law_50 (by decide) (by decide) rfl (by decide) (cs_due C hl0 hT hL hX hbl hbA hLL hi2 hR hM hd1 hd2 hg7 hrm B)
    · exact g_tblI C (1026) 1076 hwr d_La_law_50 (by decide) (by decide) rfl (by decide) (cs_late C hl0 hT hL hX hbl hbA hLL hi2 hR hM hd1 hd2 hg7 hrm B)
    · exact g_tblI C (1082) 1132 hwr d_La_law_50 (by decide) (by decide) rfl (by decide) (cs_fine C hl0 hT hL hX hbl hbA hLL hi2 hR hM hd1 hd2 hg7 hrm B)
    · exact g_tblI C (1150) 1200 hwr d_La_law_50 (by decide) (by decide) rfl (by decide) (cs_wanted C hl0 hT hL hX hbl hbA hLL hi2 hR hM hd1 hd2 hg7 hrm B)
