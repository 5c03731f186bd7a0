/-! THE FACE, put: written by program (wip/whole/gen/face4.py) -/
set_option maxHeartbeats 4000000 in
set_option maxRecDepth 100000 in
theorem ct_Ct_put (l : Launch) (hl0 : l.stackTraces = false) (D : va_G) (tys : xK) (A : Nat → Prop) (M : Wm) (hT : tyOK tys) (x : Nat) (s : AS) (z1_ : Int) (hz1 : (-2147483648 ≤ z1_ ∧ z1_ < 2147483648)) (hR : RC tys M x s) : xT l y_Ct_put b_Ct_put 5 (some .int) { frames := 6, cells := 1, slots := 6, locals := 142 } D tys A [.ref x, .int (iI z1_)] M (qI D A (fun z M' => (0 ≤ z1_ ∧ z1_ < s 0 0 3) ∧ (¬ s 0 0 5 = -1 ∧ sBit (s 4 (s 0 0 5).toNat 0) (s 3 z1_.toNat 0) = 1 ∧ s 0 0 7 < 20 ∧ (∀ k, k < (s 0 0 7).toNat → ¬ s 6 0 k = z1_)) ∧ (((sGp s z1_.toNat).1 = -1 ∧ z = -2 ∧ M' = M) ∨ (¬ (sGp s z1_.toNat).1 = -1 ∧ z = (sGp s z1_.toNat).2 ∧ RC tys M' x (sPut s z1_.toNat (sGp s z1_.toNat).1.toNat (sGp s z1_.toNat).2))))) (fun E => (E = xIA ∧ ¬ (0 ≤ z1_ ∧ z1_ < s 0 0 3)) ∨ (E = xIS ∧ (0 ≤ z1_ ∧ z1_ < s 0 0 3) ∧ ¬ (¬ s 0 0 5 = -1 ∧ sBit (s 4 (s 0 0 5).toNat 0) (s 3 z1_.toNat 0) = 1 ∧ s 0 0 7 < 20 ∧ (∀ k, k < (s 0 0 7).toNat → ¬ s 6 0 k = z1_)))) 1 6 := by
  refine xet_of (own := R_Ct) (lv := [(0, .ref x), (1, .int (iI z1_))]) rfl (by decide) (Nat.le_of_ble_eq_true rfl) rfl ?_
  intro p_ e_ s_ m_ bl_ me_ c_ C hr hex
  have hT9 := hT
  obtain ⟨hT0, hT1, hT2, hT3, hT4, hT5, hT32, hT42, hT52, hT43, hT53, hT54⟩ := hT
  have hR0 := hR
  obtain ⟨np, nl, nt, ns, ho, pa, la, ta, rk, ea, sa, pn, ca, ga, ra, to, oa, gp, gl, gt, gr, ge, gc, so, L, T, c0, hS, ⟨hx, hho, hpa, hla, hta, hrk, hea, hsa, hpn, hca, hga, hra, hoa⟩, ⟨n1, n2, n3, n4, n5, n6, n7, n8, n9⟩, ⟨hLb, hTb, hL63⟩, hPo, hRT⟩ := hR
  have hS0 := hS
  obtain ⟨⟨e1, e2, e3, e4⟩, ⟨b1_, b2_, b3_, b4_⟩, b5_, okp, oklf, okt, oku, oksp, okg, oku6⟩ := hS
  have hps := Ps_of hS0 hPo
  have hH := Ho_of (tys := tys) hS0 hPo hho hla
  have hlok := hH.2.1
  rcases hRT with ⟨hw5, ⟨ck7, ck8, ck9, ck10⟩, d0, hto⟩ | ⟨w, gq, cn, dn, hw5, hwn, hge, ck7, ck8, hcd, h6, hlegs, ck9, ck10, hto, hso⟩
  · have hcase := hw5
    refine g_aload_n C d_Ct_put_0 0 rfl ?_
    refine g_iload_n C d_Ct_put_1 1 rfl ?_
    refine g_calliP C (run_V C [.int (iI z1_)] k_Ct_149 (ct_Ct_isPart l D tys A M x ho ta rk ea sa pn to nt ns (s 0 0 0) z1_ (by omega) b3_ hx) hx ⟨rfl, rfl, Nat.le_of_ble_eq_true rfl, Nat.le_of_ble_eq_true rfl⟩ rfl rfl (Nat.le_of_ble_eq_true rfl) d_Ct_put_2 ⟨Nat.le_of_ble_eq_true rfl, Nat.le_of_ble_eq_true rfl⟩) (fun z1 hz1 => ?_)
    refine g_if_ne C 18 d_Ct_put_5 rfl (by omega) (fun c2 => ?_) (fun c2 => ?_)
    · obtain ⟨i, rfl⟩ : ∃ i : Nat, z1_ = (i : Int) := ⟨z1_.toNat, by omega⟩
      obtain ⟨b1, hs1, hpk1, htk1, pa1, hb1, hpa1⟩ := hps.2 i (by omega)
      have htk91 := htk1
      unfold okT at htk91
      refine g_aload_n C d_Ct_put_18 0 rfl ?_
      refine g_get C f_Ct_18 hx rfl d_Ct_put_19 ?_
      refine g_iload_n C d_Ct_put_22 1 rfl ?_
      refine g_aald C 4 hT4 hta (by omega) (by rw [show ((i : Nat) : Int).toNat = i by omega]; exact hs1) d_Ct_put_23 ?_
      refine g_astore_n (lv' := [(2, .ref b1), (0, .ref x), (1, .int (iI ((i : Int))))]) C d_Ct_put_24 (by decide) rfl ?_
      refine g_aload_n C d_Ct_put_25 1 rfl ?_
      refine g_get C f_Ct_45 hx rfl d_Ct_put_26 ?_
      refine g_get C f_Ct_228 hto rfl d_Ct_put_29 ?_
      refine g_ifnullN C 52 d_Ct_put_32 rfl ?_
      exact g_throw C hl0 (cls := xIS) (text := "no tour under way, or without the skill") (by decide +kernel) cl_Ct_86 ini_IS (by decide +kernel) at_IS1 at_IS2 at_IS3 hex d_Ct_put_52 d_Ct_put_55 d_Ct_put_56 d_Ct_put_58 d_Ct_put_61 ⟨Nat.le_of_ble_eq_true rfl, Nat.le_of_ble_eq_true rfl, Nat.le_of_ble_eq_true rfl, Nat.le_of_ble_eq_true rfl⟩ (Nat.le_of_ble_eq_true rfl) (Nat.le_of_ble_eq_true rfl) (Or.inr ⟨rfl, by omega, fun h_ => h_.1 (by omega)⟩)
    · exact g_throw C hl0 (cls := xIA) (text := "no such part") (by decide +kernel) cl_Ct_76 ini_IA (by decide +kernel) at_IA1 at_IA2 at_IA3 hex d_Ct_put_8 d_Ct_put_11 d_Ct_put_12 d_Ct_put_14 d_Ct_put_17 ⟨Nat.le_of_ble_eq_true rfl, Nat.le_of_ble_eq_true rfl, Nat.le_of_ble_eq_true rfl, Nat.le_of_ble_eq_true rfl⟩ (Nat.le_of_ble_eq_true rfl) (Nat.le_of_ble_eq_true rfl) (Or.inl ⟨rfl, by omega⟩)
  · have hTA := To_of (tys := tys) hS0 hPo hwn hge hcd hto hoa hso
    obtain ⟨gq2, hgq, hphw, huw, hmw, hgq1, hhm⟩ := Pe_of hS0 hPo w hwn
    rw [hge] at hgq
    cases hgq
    refine g_aload_n C d_Ct_put_0 0 rfl ?_
    refine g_iload_n C d_Ct_put_1 1 rfl ?_
    refine g_calliP C (run_V C [.int (iI z1_)] k_Ct_149 (ct_Ct_isPart l D tys A M x ho ta rk ea sa pn to nt ns (s 0 0 0) z1_ (by omega) b3_ hx) hx ⟨rfl, rfl, Nat.le_of_ble_eq_true rfl, Nat.le_of_ble_eq_true rfl⟩ rfl rfl (Nat.le_of_ble_eq_true rfl) d_Ct_put_2 ⟨Nat.le_of_ble_eq_true rfl, Nat.le_of_ble_eq_true rfl⟩) (fun z3 hz3 => ?_)
    refine g_if_ne C 18 d_Ct_put_5 rfl (by omega) (fun c4 => ?_) (fun c4 => ?_)
    · obtain ⟨i, rfl⟩ : ∃ i : Nat, z1_ = (i : Int) := ⟨z1_.toNat, by omega⟩
      obtain ⟨b1, hs1, hpk1, htk1, pa1, hb1, hpa1⟩ := hps.2 i (by omega)
      have htk91 := htk1
      unfold okT at htk91
      have ew5 : (s 0 0 5).toNat = w := by omega
      have ei : ((i : Nat) : Int).toNat = i := by omega
      have hTQ := ToA_sq (sq' := sSq s) hTA (fun k_ hk_ => sSq_lt ck7 hk_)
      have hdb : ∀ q_, -10000 ≤ sDet nl (s 2) (sSq s) (sPP s) (sHP s w) cn (sPP s i) q_ ∧ sDet nl (s 2) (sSq s) (sPP s) (sHP s w) cn (sPP s i) q_ ≤ 10000 := fun q_ => sDet_b hS0 hwn (by omega) ck7 (fun k_ hk_ => (hso k_ hk_).1)
      have hel : ∀ k_, k_ < cn → ∃ b_ fs_, so k_ = some b_ ∧ M b_ = some (.inr (2, fs_)) := by
        intro k_ hk_
        obtain ⟨-, b_, h1_, -, -, pa_, h2_, -⟩ := hTA.2.2.2.2 k_ hk_
        exact ⟨b_, _, h1_, h2_⟩
      refine g_aload_n C d_Ct_put_18 0 rfl ?_
      refine g_get C f_Ct_18 hx rfl d_Ct_put_19 ?_
      refine g_iload_n C d_Ct_put_22 1 rfl ?_
      refine g_aald C 4 hT4 hta (by omega) (by rw [show ((i : Nat) : Int).toNat = i by omega]; exact hs1) d_Ct_put_23 ?_
      refine g_astore_n (lv' := [(2, .ref b1), (0, .ref x), (1, .int (iI ((i : Int))))]) C d_Ct_put_24 (by decide) rfl ?_
      refine g_aload_n C d_Ct_put_25 1 rfl ?_
      refine g_get C f_Ct_45 hx rfl d_Ct_put_26 ?_
      refine g_get C f_Ct_228 hto rfl d_Ct_put_29 ?_
      refine g_ifnull C d_Ct_put_32 ?_
      refine g_aload_n C d_Ct_put_35 1 rfl ?_
      refine g_get C f_Ct_45 hx rfl d_Ct_put_36 ?_
      refine g_get C f_Ct_228 hto rfl d_Ct_put_39 ?_
      refine g_aload_n C d_Ct_put_42 0 rfl ?_
      refine g_get C f_Ct_237 hb1 rfl d_Ct_put_43 ?_
      refine g_calliP C (run_V C [.int (iI (s 3 i 0))] k_Ct_240 (ct_Pe_has l D tys A M gq (w : Int) hmw (s 4 w) (s 3 i 0) huw (by omega) hgq1) hgq1 ⟨rfl, rfl, Nat.le_of_ble_eq_true rfl, Nat.le_of_ble_eq_true rfl⟩ rfl rfl (Nat.le_of_ble_eq_true rfl) d_Ct_put_46 ⟨Nat.le_of_ble_eq_true rfl, Nat.le_of_ble_eq_true rfl⟩) (fun z5 hz5 => ?_)
      refine g_if_ne C 62 d_Ct_put_49 rfl (by omega) (fun c6 => ?_) (fun c6 => ?_)
      · refine g_aload_n C d_Ct_put_62 1 rfl ?_
        refine g_get C f_Ct_45 hx rfl d_Ct_put_63 ?_
        refine g_get C f_Ct_208 hto rfl d_Ct_put_66 ?_
        refine g_bipush C d_Ct_put_69 (by decide) ?_
        refine g_icmp_ge C 85 d_Ct_put_71 rfl (by omega) (fun c7 => ?_) (fun c7 => ?_)
        · exact g_throw C hl0 (cls := xIS) (text := "there are 20 stops, or it is one of them") (by decide +kernel) cl_Ct_86 ini_IS (by decide +kernel) at_IS1 at_IS2 at_IS3 hex d_Ct_put_85 d_Ct_put_88 d_Ct_put_89 d_Ct_put_91 d_Ct_put_94 ⟨Nat.le_of_ble_eq_true rfl, Nat.le_of_ble_eq_true rfl, Nat.le_of_ble_eq_true rfl, Nat.le_of_ble_eq_true rfl⟩ (Nat.le_of_ble_eq_true rfl) (Nat.le_of_ble_eq_true rfl) (Or.inr ⟨rfl, by omega, fun h_ => by have h2_ := h_.2.2.1; omega⟩)
        · refine g_aload_n C d_Ct_put_74 1 rfl ?_
          refine g_get C f_Ct_45 hx rfl d_Ct_put_75 ?_
          refine g_aload_n C d_Ct_put_78 0 rfl ?_
          refine g_calliP C (run_V C [.ref b1] k_Ct_245 (ct_To_isStop l D tys A M hT9 to oa gq (s 0 0 6) cn dn (s 0 0 9) (s 0 0 10) so (sSq s) (sPP s) (s 3) (sHP s w) hTQ b1 i pa1 (s 3 i) (by omega) hb1) hto ⟨rfl, rfl, Nat.le_of_ble_eq_true rfl, Nat.le_of_ble_eq_true rfl⟩ rfl rfl (Nat.le_of_ble_eq_true rfl) d_Ct_put_79 ⟨Nat.le_of_ble_eq_true rfl, Nat.le_of_ble_eq_true rfl⟩) (fun z8 hz8 => ?_)
          refine g_if_eq C 95 d_Ct_put_82 rfl (by omega) (fun c9 => ?_) (fun c9 => ?_)
          · refine g_aload_n C d_Ct_put_95 1 rfl ?_
            refine g_get C f_Ct_45 hx rfl d_Ct_put_96 ?_
            refine g_aload_n C d_Ct_put_99 1 rfl ?_
            refine g_get C f_Ct_10 hx rfl d_Ct_put_100 ?_
            refine g_aload_n C d_Ct_put_103 0 rfl ?_
            refine g_get C f_Ct_251 hb1 rfl d_Ct_put_104 ?_
            refine g_calliP C (run_V C [.ref ho, .ref pa1] k_Ct_254 (ct_To_shortestGap l D tys A M hT9 to oa gq (s 0 0 6) cn dn (s 0 0 9) (s 0 0 10) so (sSq s) (sPP s) (s 3) (sHP s w) hTQ ho nl (s 2) hH pa1 (sPP s i) hpk1 hpa1 hdb) hto ⟨rfl, rfl, Nat.le_of_ble_eq_true rfl, Nat.le_of_ble_eq_true rfl⟩ rfl rfl (Nat.le_of_ble_eq_true rfl) d_Ct_put_107 ⟨Nat.le_of_ble_eq_true rfl, Nat.le_of_ble_eq_true rfl⟩) (fun z10 hz10 => ?_)
            have hgp : sGp s i = sGap (fun g => sWay nl (s 2) (sBef (sSq s) (sPP s) (sHP s w) g) (sPP s i)) (fun g => sWay nl (s 2) (sPP s i) (sBeh (sSq s) (sPP s) (sHP s w) cn g)) (sDet nl (s 2) (sSq s) (sPP s) (sHP s w) cn (sPP s i)) dn (cn + 1 - dn) := by
              unfold sGp
              rw [show (s 0 0 2).toNat = nl by omega, show (s 0 0 7).toNat = cn by omega, show (s 0 0 8).toNat = dn by omega, ew5]
            have hgb := sGap_b (w1 := fun g => sWay nl (s 2) (sBef (sSq s) (sPP s) (sHP s w) g) (sPP s i)) (w2 := fun g => sWay nl (s 2) (sPP s i) (sBeh (sSq s) (sPP s) (sHP s w) cn g)) (lo := dn) (n := cn + 1 - dn) hdb
            have hgo := sGap_ok (w1 := fun g => sWay nl (s 2) (sBef (sSq s) (sPP s) (sHP s w) g) (sPP s i)) (w2 := fun g => sWay nl (s 2) (sPP s i) (sBeh (sSq s) (sPP s) (sHP s w) cn g)) (dt := sDet nl (s 2) (sSq s) (sPP s) (sHP s w) cn (sPP s i)) (lo := dn) (cn + 1 - dn)
            rw [← hgp] at hz10 hgb hgo
            replace hgo := fun (_ : Unit) => hgo
            refine g_istore_n (lv' := [(3, .int (iI z10)), (2, .ref b1), (0, .ref x), (1, .int (iI ((i : Int))))]) C d_Ct_put_110 (by decide) rfl ?_
            refine g_iload_n C d_Ct_put_111 0 rfl ?_
            refine g_iconst C d_Ct_put_112 ?_
            refine g_icmp_ne C 119 d_Ct_put_113 rfl (by omega) (fun c11 => ?_) (fun c11 => ?_)
            · obtain ⟨g, hg1, hg2, hg3, hg4, hg5, hg6⟩ := (hgo ()).resolve_left (by omega)
              obtain rfl : z10 = (g : Int) := by omega
              refine g_aload_n C d_Ct_put_119 2 rfl ?_
              refine g_get C f_Ct_45 hx rfl d_Ct_put_120 ?_
              refine g_aload_n C d_Ct_put_123 2 rfl ?_
              refine g_get C f_Ct_10 hx rfl d_Ct_put_124 ?_
              refine g_aload_n C d_Ct_put_127 1 rfl ?_
              refine g_get C f_Ct_251 hb1 rfl d_Ct_put_128 ?_
              refine g_iload_n C d_Ct_put_131 0 rfl ?_
              refine g_calliP C (run_V C [.ref ho, .ref pa1, .int (iI ((g : Int)))] k_Ct_258 (ct_To_detour l D tys A M hT9 to oa gq (s 0 0 6) cn dn (s 0 0 9) (s 0 0 10) so (sSq s) (sPP s) (s 3) (sHP s w) g (by omega) hTQ ho nl (s 2) hH pa1 (sPP s i) hpk1 hpa1) hto ⟨rfl, rfl, Nat.le_of_ble_eq_true rfl, Nat.le_of_ble_eq_true rfl⟩ rfl rfl (Nat.le_of_ble_eq_true rfl) d_Ct_put_132 ⟨Nat.le_of_ble_eq_true rfl, Nat.le_of_ble_eq_true rfl⟩) (fun z12 hz12 => ?_)
              refine g_istore (lv' := [(4, .int (iI z12)), (3, .int (iI ((g : Int)))), (2, .ref b1), (0, .ref x), (1, .int (iI ((i : Int))))]) C d_Ct_put_135 (by decide) rfl ?_
              refine g_aload_n C d_Ct_put_137 3 rfl ?_
              refine g_get C f_Ct_45 hx rfl d_Ct_put_138 ?_
              refine g_aload_n C d_Ct_put_141 2 rfl ?_
              refine g_iload_n C d_Ct_put_142 1 rfl ?_
              refine g_iload C d_Ct_put_143 0 rfl ?_
              refine g_callv C (run_V C [.ref b1, .int (iI ((g : Int))), .int (iI z12)] k_Ct_262 (ct_To_insert l D tys A M hT9 to oa (some gq) (s 0 0 6) cn (dn : Int) (s 0 0 9) (s 0 0 10) so g z12 b1 (i : Int) pa1 (s 3 i) (by omega) hto hoa hel hb1) hto ⟨rfl, rfl, Nat.le_of_ble_eq_true rfl, Nat.le_of_ble_eq_true rfl⟩ rfl rfl (Nat.le_of_ble_eq_true rfl) d_Ct_put_145 ⟨Nat.le_of_ble_eq_true rfl, Nat.le_of_ble_eq_true rfl⟩) (fun M13 hM13 => ?_)
              obtain ⟨so2, hso2, rfl⟩ := hM13
              have eb := sBef_pth (w := w) ck7 (show g ≤ cn by omega)
              have eh := sBeh_pth (w := w) ck7 (show g ≤ cn by omega)
              have hw1 : ¬ sWay nl (s 2) (sPth s w cn g) (sPP s i) = -1 := by rw [← eb]; exact hg5
              have hw2 : ¬ sWay nl (s 2) (sPP s i) (sPth s w cn (g + 1)) = -1 := by rw [← eh]; exact hg6
              have hdd : z12 = sWay nl (s 2) (sPth s w cn g) (sPP s i) + sWay nl (s 2) (sPP s i) (sPth s w cn (g + 1)) - sWay nl (s 2) (sPth s w cn g) (sPth s w cn (g + 1)) := by rw [hz12]; unfold sDet; rw [eb, eh]
              refine g_iload C d_Ct_put_148 0 rfl ?_
              refine g_xret ?_
              refine g_widen (k := 1) (n := 6) (Nat.le_of_ble_eq_true rfl) (Nat.le_of_ble_eq_true rfl) ?_
              exact g_iret C hr d_Ct_put_150 ⟨by omega, ⟨by omega, by rw [ew5, ei]; omega, by omega, fun k_ hk_ he_ => by
                  rcases hz8 with ⟨h0_, -⟩ | ⟨-, h1_⟩
                  · omega
                  · exact h1_ k_ (by omega) (by rw [sSq_lt ck7 (by omega)]; omega)⟩, Or.inr ⟨by rw [ei]; omega, by rw [ei, hg4]; exact hz12, by rw [ei, show (sGp s i).1.toNat = g by omega, hg4, ← hz12]; exact ⟨np, nl, nt, ns, ho, pa, la, ta, rk, ea, sa, pn, ca, ga, ra, to, oa, gp, gl, gt, gr, ge, gc, so2, L, T, c0, okS_put hS0, ⟨((wd_up_n (ne_oo hx hto (by decide))).trans ((wd_up_n (ne_oa hx hoa)).trans hx)), ((wd_up_n (ne_oo hho hto (by decide))).trans ((wd_up_n (ne_oa hho hoa)).trans hho)), ((wd_up_n (Ne.symm (ne_oa hto hpa))).trans ((wd_up_n (Ne.symm (ne_tt hoa hpa hT42))).trans hpa)), ((wd_up_n (Ne.symm (ne_oa hto hla))).trans ((wd_up_n (Ne.symm (ne_tt hoa hla hT43))).trans hla)), ((wd_up_n (Ne.symm (ne_oa hto hta))).trans ((wd_up_n n3).trans hta)), ((wd_up_n (Ne.symm (ne_oa hto hrk))).trans ((wd_up_n n5).trans hrk)), ((wd_up_n (Ne.symm (ne_oa hto hea))).trans ((wd_up_n (ne_tt hea hoa hT54)).trans hea)), ((wd_up_n (Ne.symm (ne_oa hto hsa))).trans ((wd_up_n (ne_ia hsa hoa)).trans hsa)), ((wd_up_n (ne_oo hpn hto (by decide))).trans ((wd_up_n (ne_oa hpn hoa)).trans hpn)), ((wd_up_n (Ne.symm (ne_oa hto hca))).trans ((wd_up_n n6).trans hca)), ((wd_up_n (Ne.symm (ne_oa hto hga))).trans ((wd_up_n (ne_ia hga hoa)).trans hga)), ((wd_up_n (Ne.symm (ne_oa hto hra))).trans ((wd_up_n (ne_ia hra hoa)).trans hra)), ((wd_up_n (Ne.symm (ne_oa hto hoa))).trans wd_up_s)⟩, ⟨n1, n2, n3, n4, n5, n6, n7, n8, n9⟩, ⟨hLb, hTb, hL63⟩, Pools_cg (Pools_up (Pools_up hPo hoa trivial) ((wd_up_n (ne_oa hto hoa)).trans hto) (show (6 : Nat) ≠ 1 ∧ (6 : Nat) ≠ 2 ∧ (6 : Nat) ≠ 3 ∧ (6 : Nat) ≠ 4 by decide)) rfl rfl rfl rfl, RT_put hw5 hwn hge ck7 ck8 hcd h6 hlegs ck9 ck10 hso (by omega) (by omega) (by omega) hw1 hw2 hdd hso2 hs1 wd_up_s⟩⟩⟩
            · refine g_bipush C d_Ct_put_116 (by decide) ?_
              refine g_xret ?_
              refine g_widen (k := 1) (n := 6) (Nat.le_of_ble_eq_true rfl) (Nat.le_of_ble_eq_true rfl) ?_
              exact g_iret C hr d_Ct_put_118 ⟨by omega, ⟨by omega, by rw [ew5, ei]; omega, by omega, fun k_ hk_ he_ => by
                  rcases hz8 with ⟨h0_, -⟩ | ⟨-, h1_⟩
                  · omega
                  · exact h1_ k_ (by omega) (by rw [sSq_lt ck7 (by omega)]; omega)⟩, Or.inl ⟨by rw [ei]; omega, rfl, rfl⟩⟩
          · exact g_throw C hl0 (cls := xIS) (text := "there are 20 stops, or it is one of them") (by decide +kernel) cl_Ct_86 ini_IS (by decide +kernel) at_IS1 at_IS2 at_IS3 hex d_Ct_put_85 d_Ct_put_88 d_Ct_put_89 d_Ct_put_91 d_Ct_put_94 ⟨Nat.le_of_ble_eq_true rfl, Nat.le_of_ble_eq_true rfl, Nat.le_of_ble_eq_true rfl, Nat.le_of_ble_eq_true rfl⟩ (Nat.le_of_ble_eq_true rfl) (Nat.le_of_ble_eq_true rfl) (Or.inr ⟨rfl, by omega, fun h_ => by
                rcases hz8 with ⟨-, k_, hk_, he_⟩ | ⟨h0_, -⟩
                · rw [sSq_lt ck7 hk_] at he_
                  have h3_ := (hso k_ hk_).1
                  exact h_.2.2.2 k_ (by omega) (by omega)
                · omega⟩)
      · exact g_throw C hl0 (cls := xIS) (text := "no tour under way, or without the skill") (by decide +kernel) cl_Ct_86 ini_IS (by decide +kernel) at_IS1 at_IS2 at_IS3 hex d_Ct_put_52 d_Ct_put_55 d_Ct_put_56 d_Ct_put_58 d_Ct_put_61 ⟨Nat.le_of_ble_eq_true rfl, Nat.le_of_ble_eq_true rfl, Nat.le_of_ble_eq_true rfl, Nat.le_of_ble_eq_true rfl⟩ (Nat.le_of_ble_eq_true rfl) (Nat.le_of_ble_eq_true rfl) (Or.inr ⟨rfl, by omega, fun h_ => by have h2_ := h_.2.1; rw [ew5, ei] at h2_; omega⟩)
    · exact g_throw C hl0 (cls := xIA) (text := "no such part") (by decide +kernel) cl_Ct_76 ini_IA (by decide +kernel) at_IA1 at_IA2 at_IA3 hex d_Ct_put_8 d_Ct_put_11 d_Ct_put_12 d_Ct_put_14 d_Ct_put_17 ⟨Nat.le_of_ble_eq_true rfl, Nat.le_of_ble_eq_true rfl, Nat.le_of_ble_eq_true rfl, Nat.le_of_ble_eq_true rfl⟩ (Nat.le_of_ble_eq_true rfl) (Nat.le_of_ble_eq_true rfl) (Or.inl ⟨rfl, by omega⟩)
