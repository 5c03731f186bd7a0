/-! BOTH SIDES JOINED: the class's answer and the reference's at one call from one state. -/
def J9 (tys : xK) (x md : Nat) (s : AS) (Mc Mm : Wm) (f : Nat → Int64) (k r : Int) : Prop := ∃ s' : AS, RC tys Mc x s' ∧ RM tys Mm md s' k ∧ (k = 0 ∨ k = 1 ∨ k = 2) ∧ (k = 0 → f 0 = lI (nz r)) ∧ s' 7 0 0 ≤ s 7 0 0 + 1
theorem xne : ¬ xIA = xIS := by decide
theorem J9_y {tys : xK} {x md : Nat} {s s' : AS} {Mc Mm : Wm} {f : Nat → Int64} {z r : Int} (h1 : RC tys Mc x s') (h2 : RM tys Mm md s' 0) (hf : f 0 = lI (nz z)) (e : z = r) (h7 : s' 7 0 0 ≤ s 7 0 0 + 1) : J9 tys x md s Mc Mm f 0 r := ⟨s', h1, h2, Or.inl rfl, fun _ => by rw [hf, e], h7⟩
theorem J9_n {tys : xK} {x md : Nat} {s : AS} {Mc Mm : Wm} {f : Nat → Int64} {k r : Int} (h1 : RC tys Mc x s) (h2 : RM tys Mm md s k) (hk : k = 1 ∨ k = 2) : J9 tys x md s Mc Mm f k r := ⟨s, h1, h2, Or.inr hk, fun e => by omega, by omega⟩
theorem Tr_7 {s s' : AS} {w : Nat} {d : Int} (h : Tr s w d s') : s' 7 0 0 = s 7 0 0 := by
  obtain ⟨C, m, o, W, -, -, -, -, -, rfl⟩ := h
  rfl
theorem jn_place {tys : xK} {M Mc Mm : Wm} {x md : Nat} {s : AS} {z1_ z2_ z3_ : Int} {f : Nat → Int64} {k r : Int} (hR : RC tys M x s) (hc : (k = 0 ∧ ∃ z : Int, f 0 = lI (nz z) ∧ (fun z M' => ((0 ≤ z1_ ∧ z1_ ≤ 30) ∧ (0 ≤ z2_ ∧ z2_ ≤ 100) ∧ (0 ≤ z3_ ∧ z3_ ≤ 100)) ∧ s 0 0 1 < 30 ∧ z = s 0 0 1 ∧ RC tys M' x (sPlace s z1_ z2_ z3_)) z Mc) ∨ (∃ E : String, (E, k) ∈ ([(xIA, 1), (xIS, 2)] : List (String × Int)) ∧ (fun E => (E = xIA ∧ ¬ ((0 ≤ z1_ ∧ z1_ ≤ 30) ∧ (0 ≤ z2_ ∧ z2_ ≤ 100) ∧ (0 ≤ z3_ ∧ z3_ ≤ 100))) ∨ (E = xIS ∧ ((0 ≤ z1_ ∧ z1_ ≤ 30) ∧ (0 ≤ z2_ ∧ z2_ ≤ 100) ∧ (0 ≤ z3_ ∧ z3_ ≤ 100)) ∧ 30 ≤ s 0 0 1)) E ∧ Mc = M)) (hm : (fun z M' => (((0 ≤ z1_ ∧ z1_ ≤ 30) ∧ (0 ≤ z2_ ∧ z2_ ≤ 100) ∧ (0 ≤ z3_ ∧ z3_ ≤ 100)) ∧ s 0 0 1 < 30 ∧ z = s 0 0 1 ∧ RM tys M' md (sPlace s z1_ z2_ z3_) 0) ∨ (¬ ((0 ≤ z1_ ∧ z1_ ≤ 30) ∧ (0 ≤ z2_ ∧ z2_ ≤ 100) ∧ (0 ≤ z3_ ∧ z3_ ≤ 100)) ∧ RM tys M' md s 1) ∨ (((0 ≤ z1_ ∧ z1_ ≤ 30) ∧ (0 ≤ z2_ ∧ z2_ ≤ 100) ∧ (0 ≤ z3_ ∧ z3_ ≤ 100)) ∧ 30 ≤ s 0 0 1 ∧ RM tys M' md s 2)) r Mm) : J9 tys x md s Mc Mm f k r := by
  rcases hc with ⟨rfl, z, hf, hp⟩ | ⟨E, hE, hx, rfl⟩
  · obtain ⟨c1, c2, c3, c4⟩ := hp
    rcases hm with ⟨m1, m2, m3, m4⟩ | ⟨m1, -⟩ | ⟨m1, m2, -⟩
    · exact J9_y c4 m4 hf (by rw [c3, m3]) (Int.le_add_of_nonneg_right (by decide))
    · exact absurd c1 m1
    · exact absurd c2 (by omega)
  · rcases hm with ⟨m1, m2, m3, m4⟩ | ⟨m1, m4⟩ | ⟨m1, m2, m4⟩
    · rcases hx with ⟨rfl, h⟩ | ⟨rfl, h, h2⟩
      · exact absurd m1 h
      · exact absurd m2 (by omega)
    · rcases hx with ⟨rfl, h⟩ | ⟨rfl, h, h2⟩
      · have hk : k = 1 := by simpa [xIA, xIS] using hE
        subst hk
        exact J9_n hR m4 (Or.inl rfl)
      · exact absurd h m1
    · rcases hx with ⟨rfl, h⟩ | ⟨rfl, h, h2⟩
      · exact absurd m1 h
      · have hk : k = 2 := by simpa [xIA, xIS] using hE
        subst hk
        exact J9_n hR m4 (Or.inr rfl)
theorem jn_lift {tys : xK} {M Mc Mm : Wm} {x md : Nat} {s : AS} {z1_ z2_ z3_ z4_ z5_ z6_ : Int} {f : Nat → Int64} {k r : Int} (hR : RC tys M x s) (hc : (k = 0 ∧ ∃ z : Int, f 0 = lI (nz z) ∧ (fun z M' => (((0 ≤ z1_ ∧ z1_ ≤ 100) ∧ (0 ≤ z2_ ∧ z2_ ≤ 100)) ∧ (0 ≤ z4_ ∧ z4_ ≤ 30) ∧ (0 ≤ z3_ ∧ z3_ ≤ z4_) ∧ (0 ≤ z5_ ∧ z5_ ≤ 100) ∧ (0 ≤ z6_ ∧ z6_ ≤ 100)) ∧ s 0 0 2 < 6 ∧ z = s 0 0 2 ∧ RC tys M' x (sLiftN s z1_ z2_ z3_ z4_ z5_ z6_)) z Mc) ∨ (∃ E : String, (E, k) ∈ ([(xIA, 1), (xIS, 2)] : List (String × Int)) ∧ (fun E => (E = xIA ∧ ¬ (((0 ≤ z1_ ∧ z1_ ≤ 100) ∧ (0 ≤ z2_ ∧ z2_ ≤ 100)) ∧ (0 ≤ z4_ ∧ z4_ ≤ 30) ∧ (0 ≤ z3_ ∧ z3_ ≤ z4_) ∧ (0 ≤ z5_ ∧ z5_ ≤ 100) ∧ (0 ≤ z6_ ∧ z6_ ≤ 100))) ∨ (E = xIS ∧ (((0 ≤ z1_ ∧ z1_ ≤ 100) ∧ (0 ≤ z2_ ∧ z2_ ≤ 100)) ∧ (0 ≤ z4_ ∧ z4_ ≤ 30) ∧ (0 ≤ z3_ ∧ z3_ ≤ z4_) ∧ (0 ≤ z5_ ∧ z5_ ≤ 100) ∧ (0 ≤ z6_ ∧ z6_ ≤ 100)) ∧ 6 ≤ s 0 0 2)) E ∧ Mc = M)) (hm : (fun z M' => ((((0 ≤ z1_ ∧ z1_ ≤ 100) ∧ (0 ≤ z2_ ∧ z2_ ≤ 100)) ∧ (0 ≤ z4_ ∧ z4_ ≤ 30) ∧ (0 ≤ z3_ ∧ z3_ ≤ z4_) ∧ (0 ≤ z5_ ∧ z5_ ≤ 100) ∧ (0 ≤ z6_ ∧ z6_ ≤ 100)) ∧ s 0 0 2 < 6 ∧ z = s 0 0 2 ∧ RM tys M' md (sLiftN s z1_ z2_ z3_ z4_ z5_ z6_) 0) ∨ (¬ (((0 ≤ z1_ ∧ z1_ ≤ 100) ∧ (0 ≤ z2_ ∧ z2_ ≤ 100)) ∧ (0 ≤ z4_ ∧ z4_ ≤ 30) ∧ (0 ≤ z3_ ∧ z3_ ≤ z4_) ∧ (0 ≤ z5_ ∧ z5_ ≤ 100) ∧ (0 ≤ z6_ ∧ z6_ ≤ 100)) ∧ RM tys M' md s 1) ∨ ((((0 ≤ z1_ ∧ z1_ ≤ 100) ∧ (0 ≤ z2_ ∧ z2_ ≤ 100)) ∧ (0 ≤ z4_ ∧ z4_ ≤ 30) ∧ (0 ≤ z3_ ∧ z3_ ≤ z4_) ∧ (0 ≤ z5_ ∧ z5_ ≤ 100) ∧ (0 ≤ z6_ ∧ z6_ ≤ 100)) ∧ 6 ≤ s 0 0 2 ∧ RM tys M' md s 2)) r Mm) : J9 tys x md s Mc Mm f k r := by
  rcases hc with ⟨rfl, z, hf, hp⟩ | ⟨E, hE, hx, rfl⟩
  · obtain ⟨c1, c2, c3, c4⟩ := hp
    rcases hm with ⟨m1, m2, m3, m4⟩ | ⟨m1, -⟩ | ⟨m1, m2, -⟩
    · exact J9_y c4 m4 hf (by rw [c3, m3]) (Int.le_add_of_nonneg_right (by decide))
    · exact absurd c1 m1
    · exact absurd c2 (by omega)
  · rcases hm with ⟨m1, m2, m3, m4⟩ | ⟨m1, m4⟩ | ⟨m1, m2, m4⟩
    · rcases hx with ⟨rfl, h⟩ | ⟨rfl, h, h2⟩
      · exact absurd m1 h
      · exact absurd m2 (by omega)
    · rcases hx with ⟨rfl, h⟩ | ⟨rfl, h, h2⟩
      · have hk : k = 1 := by simpa [xIA, xIS] using hE
        subst hk
        exact J9_n hR m4 (Or.inl rfl)
      · exact absurd h m1
    · rcases hx with ⟨rfl, h⟩ | ⟨rfl, h, h2⟩
      · exact absurd m1 h
      · have hk : k = 2 := by simpa [xIA, xIS] using hE
        subst hk
        exact J9_n hR m4 (Or.inr rfl)
theorem jn_part {tys : xK} {M Mc Mm : Wm} {x md : Nat} {s : AS} {z1_ z2_ z3_ z4_ z5_ z6_ : Int} {f : Nat → Int64} {k r : Int} (hR : RC tys M x s) (hc : (k = 0 ∧ ∃ z : Int, f 0 = lI (nz z) ∧ (fun z M' => ((0 ≤ z1_ ∧ z1_ < s 0 0 1) ∧ (0 ≤ z2_ ∧ z2_ ≤ 7) ∧ (0 ≤ z3_ ∧ z3_ ≤ 4) ∧ (1 ≤ z4_ ∧ z4_ ≤ 400) ∧ (1 ≤ z5_ ∧ z5_ ≤ 10000) ∧ (1 ≤ z6_ ∧ z6_ ≤ 7200)) ∧ s 0 0 3 < 40 ∧ z = s 0 0 3 ∧ RC tys M' x (sPart s z1_ z2_ z3_ z4_ z5_ z6_)) z Mc) ∨ (∃ E : String, (E, k) ∈ ([(xIA, 1), (xIS, 2)] : List (String × Int)) ∧ (fun E => (E = xIA ∧ ¬ ((0 ≤ z1_ ∧ z1_ < s 0 0 1) ∧ (0 ≤ z2_ ∧ z2_ ≤ 7) ∧ (0 ≤ z3_ ∧ z3_ ≤ 4) ∧ (1 ≤ z4_ ∧ z4_ ≤ 400) ∧ (1 ≤ z5_ ∧ z5_ ≤ 10000) ∧ (1 ≤ z6_ ∧ z6_ ≤ 7200))) ∨ (E = xIS ∧ ((0 ≤ z1_ ∧ z1_ < s 0 0 1) ∧ (0 ≤ z2_ ∧ z2_ ≤ 7) ∧ (0 ≤ z3_ ∧ z3_ ≤ 4) ∧ (1 ≤ z4_ ∧ z4_ ≤ 400) ∧ (1 ≤ z5_ ∧ z5_ ≤ 10000) ∧ (1 ≤ z6_ ∧ z6_ ≤ 7200)) ∧ 40 ≤ s 0 0 3)) E ∧ Mc = M)) (hm : (fun z M' => (((0 ≤ z1_ ∧ z1_ < s 0 0 1) ∧ (0 ≤ z2_ ∧ z2_ ≤ 7) ∧ (0 ≤ z3_ ∧ z3_ ≤ 4) ∧ (1 ≤ z4_ ∧ z4_ ≤ 400) ∧ (1 ≤ z5_ ∧ z5_ ≤ 10000) ∧ (1 ≤ z6_ ∧ z6_ ≤ 7200)) ∧ s 0 0 3 < 40 ∧ z = s 0 0 3 ∧ RM tys M' md (sPart s z1_ z2_ z3_ z4_ z5_ z6_) 0) ∨ (¬ ((0 ≤ z1_ ∧ z1_ < s 0 0 1) ∧ (0 ≤ z2_ ∧ z2_ ≤ 7) ∧ (0 ≤ z3_ ∧ z3_ ≤ 4) ∧ (1 ≤ z4_ ∧ z4_ ≤ 400) ∧ (1 ≤ z5_ ∧ z5_ ≤ 10000) ∧ (1 ≤ z6_ ∧ z6_ ≤ 7200)) ∧ RM tys M' md s 1) ∨ (((0 ≤ z1_ ∧ z1_ < s 0 0 1) ∧ (0 ≤ z2_ ∧ z2_ ≤ 7) ∧ (0 ≤ z3_ ∧ z3_ ≤ 4) ∧ (1 ≤ z4_ ∧ z4_ ≤ 400) ∧ (1 ≤ z5_ ∧ z5_ ≤ 10000) ∧ (1 ≤ z6_ ∧ z6_ ≤ 7200)) ∧ 40 ≤ s 0 0 3 ∧ RM tys M' md s 2)) r Mm) : J9 tys x md s Mc Mm f k r := by
  rcases hc with ⟨rfl, z, hf, hp⟩ | ⟨E, hE, hx, rfl⟩
  · obtain ⟨c1, c2, c3, c4⟩ := hp
    rcases hm with ⟨m1, m2, m3, m4⟩ | ⟨m1, -⟩ | ⟨m1, m2, -⟩
    · exact J9_y c4 m4 hf (by rw [c3, m3]) (Int.le_add_of_nonneg_right (by decide))
    · exact absurd c1 m1
    · exact absurd c2 (by omega)
  · rcases hm with ⟨m1, m2, m3, m4⟩ | ⟨m1, m4⟩ | ⟨m1, m2, m4⟩
    · rcases hx with ⟨rfl, h⟩ | ⟨rfl, h, h2⟩
      · exact absurd m1 h
      · exact absurd m2 (by omega)
    · rcases hx with ⟨rfl, h⟩ | ⟨rfl, h, h2⟩
      · have hk : k = 1 := by simpa [xIA, xIS] using hE
        subst hk
        exact J9_n hR m4 (Or.inl rfl)
      · exact absurd h m1
    · rcases hx with ⟨rfl, h⟩ | ⟨rfl, h, h2⟩
      · exact absurd m1 h
      · have hk : k = 2 := by simpa [xIA, xIS] using hE
        subst hk
        exact J9_n hR m4 (Or.inr rfl)
theorem jn_person {tys : xK} {M Mc Mm : Wm} {x md : Nat} {s : AS} {z1_ z2_ z3_ : Int} {f : Nat → Int64} {k r : Int} (hR : RC tys M x s) (hc : (k = 0 ∧ ∃ z : Int, f 0 = lI (nz z) ∧ (fun z M' => ((0 ≤ z1_ ∧ z1_ ≤ 255) ∧ (0 ≤ z2_ ∧ z2_ < s 0 0 1) ∧ (0 ≤ z3_ ∧ z3_ ≤ 100000)) ∧ s 0 0 4 < 8 ∧ z = s 0 0 4 ∧ RC tys M' x (sPerson s z1_ z2_ z3_)) z Mc) ∨ (∃ E : String, (E, k) ∈ ([(xIA, 1), (xIS, 2)] : List (String × Int)) ∧ (fun E => (E = xIA ∧ ¬ ((0 ≤ z1_ ∧ z1_ ≤ 255) ∧ (0 ≤ z2_ ∧ z2_ < s 0 0 1) ∧ (0 ≤ z3_ ∧ z3_ ≤ 100000))) ∨ (E = xIS ∧ ((0 ≤ z1_ ∧ z1_ ≤ 255) ∧ (0 ≤ z2_ ∧ z2_ < s 0 0 1) ∧ (0 ≤ z3_ ∧ z3_ ≤ 100000)) ∧ 8 ≤ s 0 0 4)) E ∧ Mc = M)) (hm : (fun z M' => (((0 ≤ z1_ ∧ z1_ ≤ 255) ∧ (0 ≤ z2_ ∧ z2_ < s 0 0 1) ∧ (0 ≤ z3_ ∧ z3_ ≤ 100000)) ∧ s 0 0 4 < 8 ∧ z = s 0 0 4 ∧ RM tys M' md (sPerson s z1_ z2_ z3_) 0) ∨ (¬ ((0 ≤ z1_ ∧ z1_ ≤ 255) ∧ (0 ≤ z2_ ∧ z2_ < s 0 0 1) ∧ (0 ≤ z3_ ∧ z3_ ≤ 100000)) ∧ RM tys M' md s 1) ∨ (((0 ≤ z1_ ∧ z1_ ≤ 255) ∧ (0 ≤ z2_ ∧ z2_ < s 0 0 1) ∧ (0 ≤ z3_ ∧ z3_ ≤ 100000)) ∧ 8 ≤ s 0 0 4 ∧ RM tys M' md s 2)) r Mm) : J9 tys x md s Mc Mm f k r := by
  rcases hc with ⟨rfl, z, hf, hp⟩ | ⟨E, hE, hx, rfl⟩
  · obtain ⟨c1, c2, c3, c4⟩ := hp
    rcases hm with ⟨m1, m2, m3, m4⟩ | ⟨m1, -⟩ | ⟨m1, m2, -⟩
    · exact J9_y c4 m4 hf (by rw [c3, m3]) (Int.le_add_of_nonneg_right (by decide))
    · exact absurd c1 m1
    · exact absurd c2 (by omega)
  · rcases hm with ⟨m1, m2, m3, m4⟩ | ⟨m1, m4⟩ | ⟨m1, m2, m4⟩
    · rcases hx with ⟨rfl, h⟩ | ⟨rfl, h, h2⟩
      · exact absurd m1 h
      · exact absurd m2 (by omega)
    · rcases hx with ⟨rfl, h⟩ | ⟨rfl, h, h2⟩
      · have hk : k = 1 := by simpa [xIA, xIS] using hE
        subst hk
        exact J9_n hR m4 (Or.inl rfl)
      · exact absurd h m1
    · rcases hx with ⟨rfl, h⟩ | ⟨rfl, h, h2⟩
      · exact absurd m1 h
      · have hk : k = 2 := by simpa [xIA, xIS] using hE
        subst hk
        exact J9_n hR m4 (Or.inr rfl)
theorem jn_used {tys : xK} {M Mc Mm : Wm} {x md : Nat} {s : AS} {z1_ z2_ z3_ : Int} {f : Nat → Int64} {k r : Int} (hR : RC tys M x s) (hc : (k = 0 ∧ ∃ z : Int, f 0 = lI (nz z) ∧ (fun z M' => (((0 ≤ z1_ ∧ z1_ < s 0 0 3) ∧ (0 ≤ z2_ ∧ z2_ ≤ 100000) ∧ (1 ≤ z3_ ∧ z3_ ≤ 1000)) ∧ s 3 z1_.toNat 7 ≤ z2_) ∧ z = s 3 z1_.toNat 6 + z3_ ∧ RC tys M' x (sUse s z1_.toNat z2_ z3_)) z Mc) ∨ (∃ E : String, (E, k) ∈ ([(xIA, 1)] : List (String × Int)) ∧ (fun E => E = xIA ∧ ¬ (((0 ≤ z1_ ∧ z1_ < s 0 0 3) ∧ (0 ≤ z2_ ∧ z2_ ≤ 100000) ∧ (1 ≤ z3_ ∧ z3_ ≤ 1000)) ∧ s 3 z1_.toNat 7 ≤ z2_)) E ∧ Mc = M)) (hm : (fun z M' => ((((0 ≤ z1_ ∧ z1_ < s 0 0 3) ∧ (0 ≤ z2_ ∧ z2_ ≤ 100000) ∧ (1 ≤ z3_ ∧ z3_ ≤ 1000)) ∧ s 3 z1_.toNat 7 ≤ z2_) ∧ z = s 3 z1_.toNat 6 + z3_ ∧ RM tys M' md (sUse s z1_.toNat z2_ z3_) 0) ∨ (¬ (((0 ≤ z1_ ∧ z1_ < s 0 0 3) ∧ (0 ≤ z2_ ∧ z2_ ≤ 100000) ∧ (1 ≤ z3_ ∧ z3_ ≤ 1000)) ∧ s 3 z1_.toNat 7 ≤ z2_) ∧ RM tys M' md s 1)) r Mm) : J9 tys x md s Mc Mm f k r := by
  rcases hc with ⟨rfl, z, hf, hp⟩ | ⟨E, hE, hx, rfl⟩
  · obtain ⟨c1, c3, c4⟩ := hp
    rcases hm with ⟨m1, m3, m4⟩ | ⟨m1, -⟩
    · exact J9_y c4 m4 hf (by rw [c3, m3]) (Int.le_refl _)
    · exact absurd c1 m1
  · obtain ⟨rfl, h⟩ := hx
    rcases hm with ⟨m1, m3, m4⟩ | ⟨m1, m4⟩
    · exact absurd m1 h
    · have hk : k = 1 := by simpa [xIA, xIS] using hE
      subst hk
      exact J9_n hR m4 (Or.inl rfl)
theorem jn_stock {tys : xK} {M Mc Mm : Wm} {x md : Nat} {s : AS} {z1_ z2_ : Int} {f : Nat → Int64} {k r : Int} (hR : RC tys M x s) (hc : (k = 0 ∧ ∃ z : Int, f 0 = lI (nz z) ∧ (fun z M' => ((0 ≤ z1_ ∧ z1_ ≤ 4) ∧ (1 ≤ z2_ ∧ z2_ ≤ 1000)) ∧ z = s 5 0 z1_.toNat + z2_ ∧ RC tys M' x (sStk s z1_.toNat z2_)) z Mc) ∨ (∃ E : String, (E, k) ∈ ([(xIA, 1)] : List (String × Int)) ∧ (fun E => E = xIA ∧ ¬ ((0 ≤ z1_ ∧ z1_ ≤ 4) ∧ (1 ≤ z2_ ∧ z2_ ≤ 1000))) E ∧ Mc = M)) (hm : (fun z M' => (((0 ≤ z1_ ∧ z1_ ≤ 4) ∧ (1 ≤ z2_ ∧ z2_ ≤ 1000)) ∧ z = s 5 0 z1_.toNat + z2_ ∧ RM tys M' md (sStk s z1_.toNat z2_) 0) ∨ (¬ ((0 ≤ z1_ ∧ z1_ ≤ 4) ∧ (1 ≤ z2_ ∧ z2_ ≤ 1000)) ∧ RM tys M' md s 1)) r Mm) : J9 tys x md s Mc Mm f k r := by
  rcases hc with ⟨rfl, z, hf, hp⟩ | ⟨E, hE, hx, rfl⟩
  · obtain ⟨c1, c3, c4⟩ := hp
    rcases hm with ⟨m1, m3, m4⟩ | ⟨m1, -⟩
    · exact J9_y c4 m4 hf (by rw [c3, m3]) (Int.le_refl _)
    · exact absurd c1 m1
  · obtain ⟨rfl, h⟩ := hx
    rcases hm with ⟨m1, m3, m4⟩ | ⟨m1, m4⟩
    · exact absurd m1 h
    · have hk : k = 1 := by simpa [xIA, xIS] using hE
      subst hk
      exact J9_n hR m4 (Or.inl rfl)
theorem jn_walk {tys : xK} {M Mc Mm : Wm} {x md : Nat} {s : AS} {z1_ z2_ : Int} {f : Nat → Int64} {k r : Int} (hR : RC tys M x s) (hc : (k = 0 ∧ ∃ z : Int, f 0 = lI (nz z) ∧ (fun z M' => ((0 ≤ z1_ ∧ z1_ < s 0 0 1) ∧ (0 ≤ z2_ ∧ z2_ < s 0 0 1)) ∧ z = sWay (s 0 0 2).toNat (s 2) (s 1 z1_.toNat) (s 1 z2_.toNat) ∧ M' = M) z Mc) ∨ (∃ E : String, (E, k) ∈ ([(xIA, 1)] : List (String × Int)) ∧ (fun E => E = xIA ∧ ¬ ((0 ≤ z1_ ∧ z1_ < s 0 0 1) ∧ (0 ≤ z2_ ∧ z2_ < s 0 0 1))) E ∧ Mc = M)) (hm : (fun z M' => (((0 ≤ z1_ ∧ z1_ < s 0 0 1) ∧ (0 ≤ z2_ ∧ z2_ < s 0 0 1)) ∧ z = sWay (s 0 0 2).toNat (s 2) (s 1 z1_.toNat) (s 1 z2_.toNat) ∧ RM tys M' md s 0) ∨ (¬ ((0 ≤ z1_ ∧ z1_ < s 0 0 1) ∧ (0 ≤ z2_ ∧ z2_ < s 0 0 1)) ∧ RM tys M' md s 1)) r Mm) : J9 tys x md s Mc Mm f k r := by
  rcases hc with ⟨rfl, z, hf, hp⟩ | ⟨E, hE, hx, rfl⟩
  · obtain ⟨c1, c3, c4⟩ := hp
    subst c4
    rcases hm with ⟨m1, m3, m4⟩ | ⟨m1, -⟩
    · exact J9_y hR m4 hf (by rw [c3, m3]) (Int.le_add_of_nonneg_right (by decide))
    · exact absurd c1 m1
  · obtain ⟨rfl, h⟩ := hx
    rcases hm with ⟨m1, m3, m4⟩ | ⟨m1, m4⟩
    · exact absurd m1 h
    · have hk : k = 1 := by simpa [xIA, xIS] using hE
      subst hk
      exact J9_n hR m4 (Or.inl rfl)
theorem jn_tour {tys : xK} {M Mc Mm : Wm} {x md : Nat} {s : AS} {z1_ z2_ : Int} {f : Nat → Int64} {k r : Int} (hR : RC tys M x s) (hc : (k = 0 ∧ ∃ z : Int, f 0 = lI (nz z) ∧ (fun z M' => ((0 ≤ z1_ ∧ z1_ < s 0 0 4) ∧ (0 ≤ z2_ ∧ z2_ ≤ 100000)) ∧ ∃ s' : AS, Tr s z1_.toNat z2_ s' ∧ z = s' 0 0 7 ∧ RC tys M' x s') z Mc) ∨ (∃ E : String, (E, k) ∈ ([(xIA, 1)] : List (String × Int)) ∧ (fun E => E = xIA ∧ ¬ ((0 ≤ z1_ ∧ z1_ < s 0 0 4) ∧ (0 ≤ z2_ ∧ z2_ ≤ 100000))) E ∧ Mc = M)) (hm : (fun z M' => (((0 ≤ z1_ ∧ z1_ < s 0 0 4) ∧ (0 ≤ z2_ ∧ z2_ ≤ 100000)) ∧ ∃ s' : AS, Tr s z1_.toNat z2_ s' ∧ z = s' 0 0 7 ∧ RM tys M' md s' 0) ∨ (¬ ((0 ≤ z1_ ∧ z1_ < s 0 0 4) ∧ (0 ≤ z2_ ∧ z2_ ≤ 100000)) ∧ RM tys M' md s 1)) r Mm) : J9 tys x md s Mc Mm f k r := by
  rcases hc with ⟨rfl, z, hf, hp⟩ | ⟨E, hE, hx, rfl⟩
  · obtain ⟨c1, s1, c3, c4, c5⟩ := hp
    rcases hm with ⟨m1, s2, m3, m4, m5⟩ | ⟨m1, -⟩
    · have e := Tr_un c3 m3
      subst e
      exact J9_y c5 m5 hf (by rw [c4, m4]) (by rw [Tr_7 c3]; exact Int.le_add_of_nonneg_right (by decide))
    · exact absurd c1 m1
  · obtain ⟨rfl, h⟩ := hx
    rcases hm with ⟨m1, m3⟩ | ⟨m1, m4⟩
    · exact absurd m1 h
    · have hk : k = 1 := by simpa [xIA, xIS] using hE
      subst hk
      exact J9_n hR m4 (Or.inl rfl)
theorem jn_stop {tys : xK} {M Mc Mm : Wm} {x md : Nat} {s : AS} {z1_ : Int} {f : Nat → Int64} {k r : Int} (hR : RC tys M x s) (hc : (k = 0 ∧ ∃ z : Int, f 0 = lI (nz z) ∧ (fun z M' => (0 ≤ z1_ ∧ z1_ < s 0 0 7) ∧ z = s 6 0 z1_.toNat ∧ M' = M) z Mc) ∨ (∃ E : String, (E, k) ∈ ([(xIA, 1)] : List (String × Int)) ∧ (fun E => E = xIA ∧ ¬ (0 ≤ z1_ ∧ z1_ < s 0 0 7)) E ∧ Mc = M)) (hm : (fun z M' => ((0 ≤ z1_ ∧ z1_ < s 0 0 7) ∧ z = s 6 0 z1_.toNat ∧ RM tys M' md s 0) ∨ (¬ (0 ≤ z1_ ∧ z1_ < s 0 0 7) ∧ RM tys M' md s 1)) r Mm) : J9 tys x md s Mc Mm f k r := by
  rcases hc with ⟨rfl, z, hf, hp⟩ | ⟨E, hE, hx, rfl⟩
  · obtain ⟨c1, c3, c4⟩ := hp
    subst c4
    rcases hm with ⟨m1, m3, m4⟩ | ⟨m1, -⟩
    · exact J9_y hR m4 hf (by rw [c3, m3]) (Int.le_add_of_nonneg_right (by decide))
    · exact absurd c1 m1
  · obtain ⟨rfl, h⟩ := hx
    rcases hm with ⟨m1, m3, m4⟩ | ⟨m1, m4⟩
    · exact absurd m1 h
    · have hk : k = 1 := by simpa [xIA, xIS] using hE
      subst hk
      exact J9_n hR m4 (Or.inl rfl)
theorem jn_told {tys : xK} {M Mc Mm : Wm} {x md : Nat} {s : AS} {z1_ : Int} {f : Nat → Int64} {k r : Int} (hR : RC tys M x s) (hc : (k = 0 ∧ ∃ z : Int, f 0 = lI (nz z) ∧ (fun z M' => (0 ≤ z1_ ∧ z1_ ≤ 4) ∧ ((z1_ = 0 ∧ z = s 0 0 7) ∨ (z1_ = 1 ∧ z = s 0 0 9) ∨ (z1_ = 2 ∧ z = s 0 0 10) ∨ (z1_ = 3 ∧ z = s 0 0 8) ∨ (z1_ = 4 ∧ z = s 0 0 5)) ∧ M' = M) z Mc) ∨ (∃ E : String, (E, k) ∈ ([(xIA, 1)] : List (String × Int)) ∧ (fun E => E = xIA ∧ ¬ (0 ≤ z1_ ∧ z1_ ≤ 4)) E ∧ Mc = M)) (hm : (fun z M' => ((0 ≤ z1_ ∧ z1_ ≤ 4) ∧ ((z1_ = 0 ∧ z = s 0 0 7) ∨ (z1_ = 1 ∧ z = s 0 0 9) ∨ (z1_ = 2 ∧ z = s 0 0 10) ∨ (z1_ = 3 ∧ z = s 0 0 8) ∨ (z1_ = 4 ∧ z = s 0 0 5)) ∧ RM tys M' md s 0) ∨ (¬ (0 ≤ z1_ ∧ z1_ ≤ 4) ∧ RM tys M' md s 1)) r Mm) : J9 tys x md s Mc Mm f k r := by
  rcases hc with ⟨rfl, z, hf, hp⟩ | ⟨E, hE, hx, rfl⟩
  · obtain ⟨c1, c3, c4⟩ := hp
    subst c4
    rcases hm with ⟨m1, m3, m4⟩ | ⟨m1, -⟩
    · exact J9_y hR m4 hf (by omega) (Int.le_add_of_nonneg_right (by decide))
    · exact absurd c1 m1
  · obtain ⟨rfl, h⟩ := hx
    rcases hm with ⟨m1, m3, m4⟩ | ⟨m1, m4⟩
    · exact absurd m1 h
    · have hk : k = 1 := by simpa [xIA, xIS] using hE
      subst hk
      exact J9_n hR m4 (Or.inl rfl)
theorem jn_put {tys : xK} {M Mc Mm : Wm} {x md : Nat} {s : AS} {z1_ : Int} {f : Nat → Int64} {k r : Int} (hR : RC tys M x s) (hc : (k = 0 ∧ ∃ z : Int, f 0 = lI (nz z) ∧ (fun z M' => (0 ≤ z1_ ∧ z1_ < s 0 0 3) ∧ (¬ s 0 0 5 = -1 ∧ sBit (s 4 (s 0 0 5).toNat 0) (s 3 z1_.toNat 0) = 1 ∧ s 0 0 7 < 20 ∧ (∀ k, k < (s 0 0 7).toNat → ¬ s 6 0 k = z1_)) ∧ (((sGp s z1_.toNat).1 = -1 ∧ z = -2 ∧ M' = M) ∨ (¬ (sGp s z1_.toNat).1 = -1 ∧ z = (sGp s z1_.toNat).2 ∧ RC tys M' x (sPut s z1_.toNat (sGp s z1_.toNat).1.toNat (sGp s z1_.toNat).2)))) z Mc) ∨ (∃ E : String, (E, k) ∈ ([(xIA, 1), (xIS, 2)] : List (String × Int)) ∧ (fun E => (E = xIA ∧ ¬ (0 ≤ z1_ ∧ z1_ < s 0 0 3)) ∨ (E = xIS ∧ (0 ≤ z1_ ∧ z1_ < s 0 0 3) ∧ ¬ (¬ s 0 0 5 = -1 ∧ sBit (s 4 (s 0 0 5).toNat 0) (s 3 z1_.toNat 0) = 1 ∧ s 0 0 7 < 20 ∧ (∀ k, k < (s 0 0 7).toNat → ¬ s 6 0 k = z1_)))) E ∧ Mc = M)) (hm : (fun z M' => ((0 ≤ z1_ ∧ z1_ < s 0 0 3) ∧ (¬ s 0 0 5 = -1 ∧ sBit (s 4 (s 0 0 5).toNat 0) (s 3 z1_.toNat 0) = 1 ∧ s 0 0 7 < 20 ∧ (∀ k, k < (s 0 0 7).toNat → ¬ s 6 0 k = z1_)) ∧ (((sGp s z1_.toNat).1 = -1 ∧ z = -2 ∧ RM tys M' md s 0) ∨ (¬ (sGp s z1_.toNat).1 = -1 ∧ z = (sGp s z1_.toNat).2 ∧ RM tys M' md (sPut s z1_.toNat (sGp s z1_.toNat).1.toNat (sGp s z1_.toNat).2) 0))) ∨ (¬ (0 ≤ z1_ ∧ z1_ < s 0 0 3) ∧ RM tys M' md s 1) ∨ ((0 ≤ z1_ ∧ z1_ < s 0 0 3) ∧ ¬ (¬ s 0 0 5 = -1 ∧ sBit (s 4 (s 0 0 5).toNat 0) (s 3 z1_.toNat 0) = 1 ∧ s 0 0 7 < 20 ∧ (∀ k, k < (s 0 0 7).toNat → ¬ s 6 0 k = z1_)) ∧ RM tys M' md s 2)) r Mm) : J9 tys x md s Mc Mm f k r := by
  rcases hc with ⟨rfl, z, hf, hp⟩ | ⟨E, hE, hx, rfl⟩
  · obtain ⟨c1, c2, c3⟩ := hp
    rcases hm with ⟨m1, m2, m3⟩ | ⟨m1, -⟩ | ⟨m1, m2, -⟩
    · rcases c3 with ⟨c4, c5, c6⟩ | ⟨c4, c5, c6⟩
      · rcases m3 with ⟨m4, m5, m6⟩ | ⟨m4, m5, m6⟩
        · subst c6
          exact J9_y hR m6 hf (by rw [c5, m5]) (Int.le_add_of_nonneg_right (by decide))
        · exact absurd c4 m4
      · rcases m3 with ⟨m4, m5, m6⟩ | ⟨m4, m5, m6⟩
        · exact absurd m4 c4
        · exact J9_y c6 m6 hf (by rw [c5, m5]) (Int.le_add_of_nonneg_right (by decide))
    · exact absurd c1 m1
    · exact absurd c2 m2
  · rcases hm with ⟨m1, m2, m3⟩ | ⟨m1, m4⟩ | ⟨m1, m2, m4⟩
    · rcases hx with ⟨rfl, h⟩ | ⟨rfl, h, h2⟩
      · exact absurd m1 h
      · exact absurd m2 h2
    · rcases hx with ⟨rfl, h⟩ | ⟨rfl, h, h2⟩
      · have hk : k = 1 := by simpa [xIA, xIS] using hE
        subst hk
        exact J9_n hR m4 (Or.inl rfl)
      · exact absurd h m1
    · rcases hx with ⟨rfl, h⟩ | ⟨rfl, h, h2⟩
      · exact absurd m1 h
      · have hk : k = 2 := by simpa [xIA, xIS] using hE
        subst hk
        exact J9_n hR m4 (Or.inr rfl)
theorem jn_done {tys : xK} {M Mc Mm : Wm} {x md : Nat} {s : AS} {f : Nat → Int64} {k r : Int} (hR : RC tys M x s) (hc : (k = 0 ∧ ∃ z : Int, f 0 = lI (nz z) ∧ (fun z M' => s 0 0 8 < s 0 0 7 ∧ ((s 5 0 (s 3 (s 6 0 (s 0 0 8).toNat).toNat 1).toNat ≤ 0 ∧ z = -2 ∧ M' = M) ∨ (0 < s 5 0 (s 3 (s 6 0 (s 0 0 8).toNat).toNat 1).toNat ∧ z = s 6 0 (s 0 0 8).toNat ∧ RC tys M' x (sDon s (s 6 0 (s 0 0 8).toNat).toNat)))) z Mc) ∨ (∃ E : String, (E, k) ∈ ([(xIS, 1)] : List (String × Int)) ∧ (fun E => E = xIS ∧ ¬ s 0 0 8 < s 0 0 7) E ∧ Mc = M)) (hm : (fun z M' => (s 0 0 8 < s 0 0 7 ∧ ((s 5 0 (s 3 (s 6 0 (s 0 0 8).toNat).toNat 1).toNat ≤ 0 ∧ z = -2 ∧ RM tys M' md s 0) ∨ (0 < s 5 0 (s 3 (s 6 0 (s 0 0 8).toNat).toNat 1).toNat ∧ z = s 6 0 (s 0 0 8).toNat ∧ RM tys M' md (sDon s (s 6 0 (s 0 0 8).toNat).toNat) 0))) ∨ (¬ s 0 0 8 < s 0 0 7 ∧ RM tys M' md s 1)) r Mm) : J9 tys x md s Mc Mm f k r := by
  rcases hc with ⟨rfl, z, hf, hp⟩ | ⟨E, hE, hx, rfl⟩
  · obtain ⟨c1, c3⟩ := hp
    rcases hm with ⟨m1, m3⟩ | ⟨m1, -⟩
    · rcases c3 with ⟨c4, c5, c6⟩ | ⟨c4, c5, c6⟩
      · rcases m3 with ⟨m4, m5, m6⟩ | ⟨m4, m5, m6⟩
        · subst c6
          exact J9_y hR m6 hf (by rw [c5, m5]) (Int.le_add_of_nonneg_right (by decide))
        · exact absurd c4 (by omega)
      · rcases m3 with ⟨m4, m5, m6⟩ | ⟨m4, m5, m6⟩
        · exact absurd m4 (by omega)
        · exact J9_y c6 m6 hf (by rw [c5, m5]) (Int.le_add_of_nonneg_right (by decide))
    · exact absurd c1 m1
  · obtain ⟨rfl, h⟩ := hx
    rcases hm with ⟨m1, m3⟩ | ⟨m1, m4⟩
    · exact absurd m1 h
    · have hk : k = 1 := by simpa [xIA, xIS] using hE
      subst hk
      exact J9_n hR m4 (Or.inl rfl)
theorem jn_due {tys : xK} {M Mc Mm : Wm} {x md : Nat} {s : AS} {z1_ : Int} {f : Nat → Int64} {k r : Int} (hR : RC tys M x s) (hc : (k = 0 ∧ ∃ z : Int, f 0 = lI (nz z) ∧ (fun z M' => (0 ≤ z1_ ∧ z1_ < s 0 0 3) ∧ z = sDue (s 3 z1_.toNat) ∧ M' = M) z Mc) ∨ (∃ E : String, (E, k) ∈ ([(xIA, 1)] : List (String × Int)) ∧ (fun E => E = xIA ∧ ¬ (0 ≤ z1_ ∧ z1_ < s 0 0 3)) E ∧ Mc = M)) (hm : (fun z M' => ((0 ≤ z1_ ∧ z1_ < s 0 0 3) ∧ z = sDue (s 3 z1_.toNat) ∧ RM tys M' md s 0) ∨ (¬ (0 ≤ z1_ ∧ z1_ < s 0 0 3) ∧ RM tys M' md s 1)) r Mm) : J9 tys x md s Mc Mm f k r := by
  rcases hc with ⟨rfl, z, hf, hp⟩ | ⟨E, hE, hx, rfl⟩
  · obtain ⟨c1, c3, c4⟩ := hp
    subst c4
    rcases hm with ⟨m1, m3, m4⟩ | ⟨m1, -⟩
    · exact J9_y hR m4 hf (by rw [c3, m3]) (Int.le_add_of_nonneg_right (by decide))
    · exact absurd c1 m1
  · obtain ⟨rfl, h⟩ := hx
    rcases hm with ⟨m1, m3, m4⟩ | ⟨m1, m4⟩
    · exact absurd m1 h
    · have hk : k = 1 := by simpa [xIA, xIS] using hE
      subst hk
      exact J9_n hR m4 (Or.inl rfl)
theorem jn_late {tys : xK} {M Mc Mm : Wm} {x md : Nat} {s : AS} {z1_ : Int} {f : Nat → Int64} {k r : Int} {np nl nt ns : Nat} (hS : okS s np nl nt ns) (hR : RC tys M x s) (hc : (k = 0 ∧ ∃ z : Int, f 0 = lI (nz z) ∧ (fun z M' => (0 ≤ z1_) ∧ ((s 0 0 3 ≤ z1_ ∧ z = -1) ∨ (z1_ < s 0 0 3 ∧ (0 ≤ z ∧ z < s 0 0 3) ∧ bfc (fun p => sDue (s 3 p)) (s 0 0 3).toNat z.toNat = z1_.toNat)) ∧ RC tys M' x s) z Mc) ∨ (∃ E : String, (E, k) ∈ ([(xIA, 1)] : List (String × Int)) ∧ (fun E => E = xIA ∧ ¬ (0 ≤ z1_)) E ∧ Mc = M)) (hm : (fun z M' => (0 ≤ z1_ ∧ ((z = -1 ∧ ∀ p, p < nt → ¬ ((bfc (fun k_ => sDue (s 3 k_)) nt p : Nat) : Int) = z1_) ∨ (∃ p : Nat, p < nt ∧ z = (p : Int) ∧ ((bfc (fun k_ => sDue (s 3 k_)) nt p : Nat) : Int) = z1_)) ∧ RM tys M' md s 0) ∨ (¬ 0 ≤ z1_ ∧ RM tys M' md s 1)) r Mm) : J9 tys x md s Mc Mm f k r := by
  rcases hc with ⟨rfl, z, hf, hp⟩ | ⟨E, hE, hx, rfl⟩
  · obtain ⟨c1, c3, c4⟩ := hp
    rcases hm with ⟨m1, m3, m4⟩ | ⟨m1, -⟩
    · have hn : s 0 0 3 = (nt : Int) := hS.1.2.2.1
      rw [hn, Int.toNat_natCast] at c3
      exact J9_y c4 m4 hf (late_un c1 c3 m3) (Int.le_add_of_nonneg_right (by decide))
    · exact absurd c1 m1
  · obtain ⟨rfl, h⟩ := hx
    rcases hm with ⟨m1, m3, m4⟩ | ⟨m1, m4⟩
    · exact absurd m1 h
    · have hk : k = 1 := by simpa [xIA, xIS] using hE
      subst hk
      exact J9_n hR m4 (Or.inl rfl)
theorem jn_fine {tys : xK} {M Mc Mm : Wm} {x md : Nat} {s : AS} {z1_ z2_ : Int} {f : Nat → Int64} {k r : Int} (hR : RC tys M x s) (hc : (k = 0 ∧ ∃ z : Int, f 0 = lI (nz z) ∧ (fun z M' => ((0 ≤ z1_ ∧ z1_ < s 0 0 3) ∧ (0 ≤ z2_ ∧ z2_ ≤ 100000)) ∧ z = sFine (s 0 0 0) (z2_ - sDue (s 3 z1_.toNat)) ∧ M' = M) z Mc) ∨ (∃ E : String, (E, k) ∈ ([(xIA, 1)] : List (String × Int)) ∧ (fun E => E = xIA ∧ ¬ ((0 ≤ z1_ ∧ z1_ < s 0 0 3) ∧ (0 ≤ z2_ ∧ z2_ ≤ 100000))) E ∧ Mc = M)) (hm : (fun z M' => (((0 ≤ z1_ ∧ z1_ < s 0 0 3) ∧ (0 ≤ z2_ ∧ z2_ ≤ 100000)) ∧ z = sFine (s 0 0 0) (z2_ - sDue (s 3 z1_.toNat)) ∧ RM tys M' md s 0) ∨ (¬ ((0 ≤ z1_ ∧ z1_ < s 0 0 3) ∧ (0 ≤ z2_ ∧ z2_ ≤ 100000)) ∧ RM tys M' md s 1)) r Mm) : J9 tys x md s Mc Mm f k r := by
  rcases hc with ⟨rfl, z, hf, hp⟩ | ⟨E, hE, hx, rfl⟩
  · obtain ⟨c1, c3, c4⟩ := hp
    subst c4
    rcases hm with ⟨m1, m3, m4⟩ | ⟨m1, -⟩
    · exact J9_y hR m4 hf (by rw [c3, m3]) (Int.le_add_of_nonneg_right (by decide))
    · exact absurd c1 m1
  · obtain ⟨rfl, h⟩ := hx
    rcases hm with ⟨m1, m3, m4⟩ | ⟨m1, m4⟩
    · exact absurd m1 h
    · have hk : k = 1 := by simpa [xIA, xIS] using hE
      subst hk
      exact J9_n hR m4 (Or.inl rfl)
theorem jn_wanted {tys : xK} {M Mc Mm : Wm} {x md : Nat} {s : AS} {z1_ z2_ : Int} {f : Nat → Int64} {k r : Int} (hR : RC tys M x s) (hc : (k = 0 ∧ ∃ z : Int, f 0 = lI (nz z) ∧ (fun z M' => ((0 ≤ z1_ ∧ z1_ ≤ 4) ∧ (0 ≤ z2_ ∧ z2_ ≤ 100000)) ∧ ((s 5 0 z1_.toNat < sCnt s z1_ z2_ (s 0 0 3).toNat ∧ z = sCnt s z1_ z2_ (s 0 0 3).toNat - s 5 0 z1_.toNat) ∨ (¬ s 5 0 z1_.toNat < sCnt s z1_ z2_ (s 0 0 3).toNat ∧ z = 0)) ∧ M' = M) z Mc) ∨ (∃ E : String, (E, k) ∈ ([(xIA, 1)] : List (String × Int)) ∧ (fun E => E = xIA ∧ ¬ ((0 ≤ z1_ ∧ z1_ ≤ 4) ∧ (0 ≤ z2_ ∧ z2_ ≤ 100000))) E ∧ Mc = M)) (hm : (fun z M' => (((0 ≤ z1_ ∧ z1_ ≤ 4) ∧ (0 ≤ z2_ ∧ z2_ ≤ 100000)) ∧ ((s 5 0 z1_.toNat < sCnt s z1_ z2_ (s 0 0 3).toNat ∧ z = sCnt s z1_ z2_ (s 0 0 3).toNat - s 5 0 z1_.toNat) ∨ (¬ s 5 0 z1_.toNat < sCnt s z1_ z2_ (s 0 0 3).toNat ∧ z = 0)) ∧ RM tys M' md s 0) ∨ (¬ ((0 ≤ z1_ ∧ z1_ ≤ 4) ∧ (0 ≤ z2_ ∧ z2_ ≤ 100000)) ∧ RM tys M' md s 1)) r Mm) : J9 tys x md s Mc Mm f k r := by
  rcases hc with ⟨rfl, z, hf, hp⟩ | ⟨E, hE, hx, rfl⟩
  · obtain ⟨c1, c3, c4⟩ := hp
    subst c4
    rcases hm with ⟨m1, m3, m4⟩ | ⟨m1, -⟩
    · refine J9_y hR m4 hf ?_ (Int.le_add_of_nonneg_right (by decide))
      rcases c3 with ⟨c5, c6⟩ | ⟨c5, c6⟩
      · rcases m3 with ⟨m5, m6⟩ | ⟨m5, m6⟩
        · rw [c6, m6]
        · exact absurd c5 m5
      · rcases m3 with ⟨m5, m6⟩ | ⟨m5, m6⟩
        · exact absurd m5 c5
        · rw [c6, m6]
    · exact absurd c1 m1
  · obtain ⟨rfl, h⟩ := hx
    rcases hm with ⟨m1, m3, m4⟩ | ⟨m1, m4⟩
    · exact absurd m1 h
    · have hk : k = 1 := by simpa [xIA, xIS] using hE
      subst hk
      exact J9_n hR m4 (Or.inl rfl)
