/-! THE REFERENCE: cracks, undoing, images -/
theorem nm_xor_dec : ∀ c, c < 64 → ∀ k, k < 6 → ∀ b, b < 2 → (nm_bit ((c : Nat) : Int) ((k : Nat) : Int) ≠ ((b : Nat) : Int) → am_xor (c : Int) (am_shl 1 (k : Int)) = nm_setb (c : Int) (k : Int) (b : Int)) ∧ (nm_bit (c : Int) (k : Int) = (b : Int) → am_xor (c : Int) 0 = nm_setb (c : Int) (k : Int) (b : Int)) := by decide +kernel
theorem nm_xor_set {c k b : Int} (hc : 0 ≤ c) (hc2 : c ≤ 63) (hk : 0 ≤ k) (hk2 : k < 6) (hb : 0 ≤ b) (hb2 : b ≤ 1) : (nm_bit c k ≠ b → am_xor c (am_shl 1 k) = nm_setb c k b) ∧ (nm_bit c k = b → am_xor c 0 = nm_setb c k b) := by
  obtain ⟨n, hn, rfl⟩ := nm_nat (n := 64) hc (by omega)
  obtain ⟨j, hj, rfl⟩ := nm_nat (n := 6) hk hk2
  obtain ⟨i, hi, rfl⟩ := nm_nat (n := 2) hb (by omega)
  exact nm_xor_dec n hn j hj i hi
theorem nm_bit_in {c k : Int} : 0 ≤ nm_bit c k ∧ nm_bit c k ≤ 1 := by unfold nm_bit; omega
theorem nmq_5 {d : Nat} {x y b : Int} {X : nm_X} {M : am_M} {Q : List am_V → am_M → Prop} (hd : 3 ≤ d) (hok : nm_ok X) (hM : nm_M M X) (hQ : nm_KM (sp_5 X x y b).1 [(0, (sp_5 X x y b).2)] M Q) : am_CL d 163 [(2, 214), (0, x), (0, y), (0, b)] M Q := by
  have F0 := nm_m0F (M := M)
  have hM0 := nm_m0 hok hM
  have hM1 := hM0
  have hL := nm_M_L hM0
  refine h_163_0 (nm_M_L hM) ?_
  generalize am_st M 214 0 0 = M0 at F0 hM0 hM1 hL ⊢
  obtain ⟨m1, m2, m3, m4, m5, m6⟩ := hM1
  have m1' := m1
  obtain ⟨a1, hS, hW, hO, hX, a6⟩ := m1
  have o0 := hO.1
  have oc := hO.2.2.2.2.2.2.2.2.2.2.1
  have R1 : (x = y ∨ b < 0 ∨ 1 < b) → 0 < d ∧ am_CL (d - 1) 145 [(2, 214), (0, (-1))] M0 (fun r M' => am_WP d am_c163 25 [(2, 214), (0, x), (0, y), (0, b), (9, 0)] (r ++ []) M' Q) := by
    intro h
    unfold sp_5 at hQ; rw [if_pos h] at hQ
    exact ⟨by omega, nmq_ref (k := 163) hok (by decide) F0 hM0 (fun M' L q => h_163_25 L q) hQ⟩
  refine ⟨fun h => R1 (.inl h), fun hxy => ⟨by omega, nmm_142 hL (fun b0 b1 => ?_) (fun b0 => h_163_17 hL ⟨fun h => absurd rfl h, fun _ => R1 (by omega)⟩)⟩⟩
  unfold sp_5 at hQ
  rw [if_neg (by omega)] at hQ
  have R2 : (x < 0 ∨ nx_S X 0 ≤ x ∨ y < 0 ∨ nx_S X 0 ≤ y) → 0 < d ∧ am_CL (d - 1) 145 [(2, 214), (0, (-2))] M0 (fun r M' => am_WP d am_c163 48 [(2, 214), (0, x), (0, y), (0, b), (9, 0)] (r ++ []) M' Q) := by
    intro h
    rw [if_pos h] at hQ
    exact ⟨by omega, nmq_ref (k := 163) hok (by decide) F0 hM0 (fun M' L q => h_163_48 L q) hQ⟩
  refine h_163_17 hL ⟨fun _ => ⟨by omega, nmm_154 (by omega) hL hS hO (fun a0 a1 => ?_) (fun a0 => h_163_31 hL ⟨fun _ => R2 (by omega), fun h => absurd rfl h⟩)⟩, fun h => absurd h (by decide)⟩
  refine h_163_31 hL ⟨fun h => absurd h (by decide), fun _ => ⟨by omega, nmm_154 (by omega) hL hS hO (fun e0 e1 => ?_) (fun e0 => h_163_39 hL ⟨fun h => absurd rfl h, fun _ => R2 (by omega)⟩)⟩⟩
  rw [if_neg (by omega)] at hQ
  have cx := oc x a0 (by omega)
  have cy := oc y e0 (by omega)
  have sym : nm_bit (nx_S X (71 + y)) x = nm_bit (nx_S X (71 + x)) y := (hok.1.2.1.2 x y a0 a1 e0 e1).symm
  have gx : am_gt M0 216 (71 + x) = nx_S X (71 + x) := hS _ (by unfold nm_si; omega)
  have gy : am_gt M0 216 (71 + y) = nx_S X (71 + y) := hS _ (by unfold nm_si; omega)
  have fin : 0 < d ∧ am_CL (d - 1) 145 [(2, 214), (0, nm_bit (nx_S X (71 + x)) y)] (am_st (am_st M0 216 (71 + x) (nm_setb (nx_S X (71 + x)) y b)) 216 (71 + y) (nm_setb (nx_S X (71 + y)) x b)) (fun r M' => am_WP d am_c163 120 [(2, 214), (0, x), (0, y), (0, b), (0, nm_bit (nx_S X (71 + x)) y)] (r ++ []) M' Q) := by
    have F1 := nm_Fr_st (a := 216) (i := 71 + x) (v := nm_setb (nx_S X (71 + x)) y b) (nm_Fg_refl [(216, 0, 110)] M0) (nm_in_c (lo := 0) (hi := 110) (by decide) (by omega) (by omega))
    have F4 := nm_Fr_st (a := 216) (i := 71 + y) (v := nm_setb (nx_S X (71 + y)) x b) F1 (nm_in_c (lo := 0) (hi := 110) (by decide) (by omega) (by omega))
    have S4 := nm_MS_up (j := 71 + y) (v := nm_setb (nx_S X (71 + y)) x b) (nm_MS_up (j := 71 + x) (v := nm_setb (nx_S X (71 + x)) y b) hS)
    have W4 := nm_MW_st (j := 71 + y) (v := nm_setb (nx_S X (71 + y)) x b) (nm_MW_st (j := 71 + x) (v := nm_setb (nx_S X (71 + x)) y b) hW (by omega)) (by omega)
    have X4 := nm_MX_st (S' := nm_crS (nx_S X) x y b) (j := 71 + y) (v := nm_setb (nx_S X (71 + y)) x b) (nm_MX_st (S' := nx_S X) (j := 71 + x) (v := nm_setb (nx_S X (71 + x)) y b) hX (by omega) rfl) (by omega) (by unfold nm_crS; rw [nm_up_ne (by omega), nm_up_ne (by omega)])
    have lay : nm_Lay (am_st (am_st M0 216 (71 + x) (nm_setb (nx_S X (71 + x)) y b)) 216 (71 + y) (nm_setb (nx_S X (71 + y)) x b)) := nm_Lay_fr hL F4 (by decide +kernel)
    generalize am_st (am_st M0 216 (71 + x) (nm_setb (nx_S X (71 + x)) y b)) 216 (71 + y) (nm_setb (nx_S X (71 + y)) x b) = M4 at F4 S4 W4 X4 lay ⊢
    have C4 : nm_M M4 (ns_S X (nm_crS (nx_S X) x y b)) := ⟨⟨lay, S4, W4, nm_okS_cr hO a0 (by omega) e0 (by omega) (by omega) (by omega), X4, by rw [nm_gt_frn F4 hL (by decide) (by decide +kernel)]; exact a6⟩, fun k a b => ⟨(nm_gt_frn F4 hL (by decide) (by decide +kernel)).trans (m2 k a b).1, fun e => nm_MI_fr (nm_ok_I hok a b e) ((m2 k a b).2 e) hL F4 (by decide +kernel)⟩, nm_MU_S (nm_MU_fr m3 hL F4 (by decide +kernel) (by decide +kernel) (by decide +kernel)) (fun i a b => by show nm_crS (nx_S X) x y _ i = nx_S X i; unfold nm_crS; rw [nm_up_ne (by omega), nm_up_ne (by omega)]), nm_MP_fr m4 hL F4 (by decide +kernel) (by decide +kernel), nm_MR_fr m5 hL F4 (by decide +kernel) (by decide +kernel), nm_MY_fr m6 hL F4 (by decide +kernel)⟩
    have bi := nm_bit_in (c := nx_S X (71 + x)) (k := y)
    refine ⟨by omega, nmm_145 (R := nx_R X) (by omega) (nm_M_L C4) C4.2.2.2.2.1 (fun M5 F5 r5 => ?_)⟩
    have C5 := nm_M_tell (X0 := X) (X := ns_S X (nm_crS (nx_S X) x y b)) hok rfl rfl (.inl bi.1) C4 F5 r5
    rw [nx_tl_fn bi.1] at C5
    exact h_163_120 (nm_M_L C5) (hQ M5 (nm_Fr_trans F0 (nm_Fr_trans (nm_mF F4 (by decide +kernel)) (nm_mF F5 (by decide +kernel)))) C5)
  refine h_163_39 hL ⟨fun _ => ?_, fun h => absurd h (by decide)⟩
  rw [am_w_id (x := 71 + x) (by omega) (by omega), am_w_id (x := 71 + y) (by omega) (by omega), gx, nm_bit_and cx.1 cx.2 e0 (by omega), nm_st_nj (show 71 + y ≠ 71 + x by omega), nm_st_nj (show 71 + y ≠ 71 + x by omega), gy]
  refine ⟨by omega, by omega, fun hb => ⟨by omega, by omega, fun _ => ?_, fun h => absurd hb h⟩, fun hb => ⟨by omega, by omega, fun h => absurd h hb, fun _ => ?_⟩⟩
  · rw [(nm_xor_set cx.1 cx.2 e0 (by omega) b0 b1).1 hb, (nm_xor_set cy.1 cy.2 a0 (by omega) b0 b1).1 (by rw [sym]; exact hb)]
    exact fin
  · have hb' : nm_bit (nx_S X (71 + x)) y = b := by omega
    rw [(nm_xor_set cx.1 cx.2 e0 (by omega) b0 b1).2 hb', (nm_xor_set cy.1 cy.2 a0 (by omega) b0 b1).2 (by rw [sym]; exact hb')]
    exact fin
/-- a snapshot of the works -/
def nm_Sn (M : am_M) (k : Int) (S : Int → Int) (W : nm_W) : Prop := nm_MW (nm_mr (fun i => am_gt M 219 (25 * k + (i - 4)))) W ∧ ∀ i, 5 ≤ i → i ≤ 7 → am_gt M 219 (25 * k + (i - 4)) = S i
theorem nm_Sn_kp {M M' : am_M} {k : Int} {S : Int → Int} {W : nm_W} (h : nm_Sn M k S W) (e : ∀ i, 4 ≤ i → i < 29 → am_gt M' 219 (25 * k + (i - 4)) = am_gt M 219 (25 * k + (i - 4))) : nm_Sn M' k S W :=
  ⟨nm_MW_kp2 h.1 (fun i a b => e i a b), fun i a b => by rw [e i (by omega) (by omega)]; exact h.2 i a b⟩
theorem nm_Sn_16 {n s : Int} {f : nm_Rg} {M M' : am_M} {S : Int → Int} {W : nm_W} (h : nm_Sn M 16 S W) (hL : nm_Lay M) (F : nm_Fg n s f M M') (hd : nm_dj f [(219, 400, 425)] = true) : nm_Sn M' 16 S W := nm_Sn_kp h (fun i a b => nm_gt_frd F hL (by decide) hd (nm_in_c (lo := 400) (hi := 425) (by decide) (by omega) (by omega)))
theorem nm_Sn_17 {n s : Int} {f : nm_Rg} {M M' : am_M} {S : Int → Int} {W : nm_W} (h : nm_Sn M 17 S W) (hL : nm_Lay M) (F : nm_Fg n s f M M') (hd : nm_dj f [(219, 425, 450)] = true) : nm_Sn M' 17 S W := nm_Sn_kp h (fun i a b => nm_gt_frd F hL (by decide) hd (nm_in_c (lo := 425) (hi := 450) (by decide) (by omega) (by omega)))
theorem nmm_148s {d : Nat} {k : Int} {S : Int → Int} {W : nm_W} {D : Int → nm_T} {M : am_M} {Q : List am_V → am_M → Prop} (hA : nm_MA M S W D) (k0 : 0 ≤ k) (k1 : k < 18) (hQ : ∀ M', nm_Fr [(219, 25 * k, 25 * k + 25)] M M' → nm_Sn M' k S W → Q [] M') : am_CL d 148 [(2, 214), (0, k)] M Q :=
  nmm_148 hA.1 k0 k1 (fun M1 F1 a1 => hQ M1 F1 ⟨nm_MW_kp2 hA.2.2.1 (fun i a b => by rw [nm_mr_gt]; exact a1 i a b), fun i a b => by rw [a1 i (by omega) (by omega)]; exact hA.2.1 i (by unfold nm_si; omega)⟩)
theorem nmm_149s {d : Nat} {k : Int} {S : Int → Int} {W W1 : nm_W} {D : Int → nm_T} {M : am_M} {Q : List am_V → am_M → Prop} (hA : nm_MA M S W1 D) (hs : nm_Sn M k S W) (k0 : 0 ≤ k) (k1 : k < 18) (hQ : ∀ M', nm_Fr [(216, 4, 29)] M M' → nm_MA M' S W D → Q [] M') : am_CL d 149 [(2, 214), (0, k)] M Q := by
  refine nmm_149 hA.1 k0 k1 (fun M1 F1 a1 => hQ M1 F1 ?_)
  obtain ⟨hL, hS, hW, hO, hX, a6⟩ := hA
  have o2 := hO.2.2.1
  have kp : ∀ i, i < 4 ∨ 29 ≤ i → am_gt M1 216 i = am_gt M 216 i := by
    intro i hi
    refine nm_gt_fr F1 (by have := hL.2.2.1; omega) ?_
    rw [Bool.eq_false_iff]; intro hc
    obtain ⟨q, hq, h1, h2, h3⟩ := nm_in_iff.mp hc
    simp only [List.mem_singleton] at hq
    subst hq
    simp only at h2 h3
    omega
  refine ⟨nm_Lay_fr hL F1 (by decide +kernel), fun i hi => ?_, nm_MW_kp2 hs.1 (fun i a b => by rw [nm_mr_gt]; exact a1 i a b), hO, fun j j0 j1 => nm_MT_kp2 (hX j j0 j1) (by omega) (by omega) (fun i a b => kp i (by omega)), by rw [nm_gt_frn F1 hL (by decide) (by decide +kernel)]; exact a6⟩
  by_cases h : 5 ≤ i ∧ i ≤ 7
  · rw [a1 i (by omega) (by omega)]; exact hs.2 i h.1 h.2
  · rw [kp i (by unfold nm_si at hi; omega)]; exact hS i hi
/-- undo -/
theorem nmq_22 {d : Nat} {X : nm_X} {M : am_M} {Q : List am_V → am_M → Prop} (hd : 3 ≤ d) (hok : nm_ok X) (hM : nm_M M X) (hQ : nm_KM (sp_22 X).1 [(0, (sp_22 X).2)] M Q) : am_CL d 151 [(2, 214)] M Q := by
  have F0 := nm_m0F (M := M)
  have hM0 := nm_m0 hok hM
  have hM1 := hM0
  have hL := nm_M_L hM0
  have e8 : am_gt M 214 8 = ((nx_U X).length : Int) := hM.2.2.1.1
  have l16 : (nx_U X).length ≤ 16 := hM.2.2.1.2.1
  refine h_151_0 (nm_M_L hM) ?_
  rw [e8]
  unfold sp_22 at hQ
  generalize am_st M 214 0 0 = M0 at F0 hM0 hM1 hL ⊢
  obtain ⟨m1, m2, m3, m4, m5, m6⟩ := hM1
  have m1' := m1
  obtain ⟨a1, hS, hW, hO, hX, a6⟩ := m1
  refine ⟨fun h => ⟨by omega, ?_⟩, fun h => ⟨by omega, ?_⟩⟩
  · rw [if_neg (by omega)] at hQ
    obtain ⟨n, hn⟩ : ∃ n, (nx_U X).length = n + 1 := ⟨(nx_U X).length - 1, by omega⟩
    rw [am_w_id (by omega) (by omega), show ((nx_U X).length : Int) - 1 = (n : Int) by omega]
    rw [show (nx_U X).length - 1 = n by omega] at hQ
    have F1 : nm_Fr [(214, 8, 9)] M0 (am_st M0 214 8 (n : Int)) := nm_Fr_st (nm_Fg_refl _ _) (by decide)
    have hA1 := nm_MA_fr m1' F1 (by decide +kernel) (by decide +kernel) (by decide +kernel)
    obtain ⟨q1, q2, q3⟩ := m3.2.2 n (by omega)
    have sn : nm_Sn (am_st M0 214 8 (n : Int)) (n : Int) (nx_S X) ((nx_U X).getD n nm_u0).2 := ⟨nm_MW_kp2 q2 (fun i a b => by rw [nm_mr_gt, nm_mr_gt, nm_st_ne (by decide)]), fun i a b => by rw [nm_st_ne (by decide)]; exact q3 i a b⟩
    refine nmm_149s hA1 sn (by omega) (by omega) (fun M2 F2 hA2 => ?_)
    have F02 : nm_Fr [(214, 8, 9), (216, 4, 29)] M0 M2 := nm_Fr_trans (nm_Fr_sub F1 (by decide)) (nm_Fr_sub F2 (by decide))
    have e8' : am_gt M2 214 8 = (n : Int) := by rw [nm_gt_frn F2 hA1.1 (by decide) (by decide +kernel), nm_st_eq]
    have e220 : am_gt M2 220 (n : Int) = ((nx_U X).getD n nm_u0).1 := by rw [nm_gt_frn F02 hL (by decide) (by decide +kernel)]; exact q1
    have hin := hok.2.2.1.2 ((nx_U X).getD n nm_u0) (by rw [nm_getD_u (by omega)]; exact List.getElem_mem _)
    refine h_151_37 hA2.1 ?_
    rw [e8', e220]
    refine ⟨by omega, by omega, by omega, ?_⟩
    have U2 : nm_MU M2 (nx_S X) ((nx_U X).take n) := by
      refine ⟨by rw [e8', List.length_take]; omega, by rw [List.length_take]; omega, fun k hk => ?_⟩
      rw [List.length_take] at hk
      have hx : ((nx_U X).take n).getD k nm_u0 = (nx_U X).getD k nm_u0 := by rw [List.getD_eq_getElem?_getD, List.getElem?_take, if_pos (by omega), List.getD_eq_getElem?_getD]
      obtain ⟨r1, r2, r3⟩ := m3.2.2 k (by omega)
      rw [hx, nm_gt_frn F02 hL (by decide) (by decide +kernel)]
      refine ⟨r1, nm_MW_kp2 r2 (fun i a b => by rw [nm_mr_gt, nm_mr_gt]; exact nm_gt_frn F02 hL (by decide) (by decide +kernel)), fun i a b => by rw [nm_gt_frn F02 hL (by decide) (by decide +kernel)]; exact r3 i a b⟩
    have C2 : nm_M M2 (ns_U (ns_W X ((nx_U X).getD n nm_u0).2) ((nx_U X).take n)) := ⟨hA2, fun k a b => ⟨(nm_gt_frn F02 hL (by decide) (by decide +kernel)).trans (m2 k a b).1, fun e => nm_MI_fr (nm_ok_I hok a b e) ((m2 k a b).2 e) hL F02 (by decide +kernel)⟩, U2, nm_MP_fr m4 hL F02 (by decide +kernel) (by decide +kernel), nm_MR_fr m5 hL F02 (by decide +kernel) (by decide +kernel), nm_MY_fr m6 hL F02 (by decide +kernel)⟩
    refine nmm_145 (R := nx_R X) (.inl hin.1) (nm_M_L C2) C2.2.2.2.2.1 (fun M5 F5 r5 => ?_)
    have C5 := nm_M_tell (X0 := X) (X := ns_U (ns_W X ((nx_U X).getD n nm_u0).2) ((nx_U X).take n)) hok rfl rfl (.inl hin.1) C2 F5 r5
    rw [nx_tl_fn hin.1] at C5
    exact h_151_50 (nm_M_L C5) (hQ M5 (nm_Fr_trans F0 (nm_Fr_trans (nm_mF F02 (by decide +kernel)) (nm_mF F5 (by decide +kernel)))) C5)
  · rw [if_pos (by omega)] at hQ
    exact nmq_ref (k := 151) hok (by decide) F0 hM0 (fun M' L q => h_151_18 L q) hQ
/-- image -/
theorem nmq_39 {d : Nat} {k : Int} {X : nm_X} {M : am_M} {Q : List am_V → am_M → Prop} (hd : 3 ≤ d) (hok : nm_ok X) (hM : nm_M M X) (hQ : nm_KM (sp_39 X k).1 [(0, (sp_39 X k).2)] M Q) : am_CL d 152 [(2, 214), (0, k)] M Q := by
  have F0 := nm_m0F (M := M)
  have hM0 := nm_m0 hok hM
  have hM1 := hM0
  have hL := nm_M_L hM0
  refine h_152_0 (nm_M_L hM) ⟨by omega, ?_⟩
  generalize am_st M 214 0 0 = M0 at F0 hM0 hM1 hL ⊢
  obtain ⟨m1, m2, m3, m4, m5, m6⟩ := hM1
  have m1' := m1
  obtain ⟨a1, hS, hW, hO, hX, a6⟩ := m1
  unfold sp_39 at hQ
  refine nmm_142 hL (fun k0 k1 => ?_) (fun k0 => ?_)
  · rw [if_neg (by omega)] at hQ
    refine h_152_12 hL ⟨fun _ => ?_, fun h => absurd h (by decide)⟩
    have key : ∀ j : Nat, j ≤ 5510 → ∀ M1, nm_Fr [(217, 5510 * k, 5510 * k + 5510)] M0 M1 → (∀ i, 0 ≤ i → i < (j : Int) → am_gt M1 217 (5510 * k + i) = am_gt M0 216 i) → am_WP d am_c152 23 [(2, 214), (0, k), (0, (j : Int))] [] M1 Q := by
      refine nm_dn ?_
      intro j hj ih M1 F1 a1
      have F1' := nm_Fr_sub F1 (g := [(217, 0, 11020)]) (nm_sb1 (lo' := 0) (hi' := 11020) (by decide) (by omega) (by omega))
      have hL1 : nm_Lay M1 := nm_Lay_fr hL F1' (by decide +kernel)
      refine h_152_23 hL1 ⟨fun h => ⟨by omega, by omega, by omega, ?_⟩, fun h => ?_⟩
      · have hj5 : j = 5510 := by omega
        subst hj5
        have F2 : nm_Fr [(217, 0, 11020), (218, 0, 2)] M0 (am_st M1 218 k 1) := nm_Fr_st (nm_Fr_sub F1' (by decide)) (nm_in_c (lo := 0) (hi := 2) (by decide) k0 (by omega))
        have C2 : nm_M (am_st M1 218 k 1) (ns_I X k) := ⟨nm_MA_fr m1' F2 (by decide +kernel) (by decide +kernel) (by decide +kernel), fun j a b => by
          show am_gt (am_st M1 218 k 1) 218 j = nm_up (nx_K X) k 1 j ∧ (nm_up (nx_K X) k 1 j = 1 → nm_MI (am_st M1 218 k 1) j (if j = k then X.1 else X.2.1 j))
          by_cases hj : j = k
          · rw [hj, nm_st_eq, nm_up_eq]
            refine ⟨rfl, fun _ => ?_⟩
            rw [if_pos rfl]
            exact nm_MG_kp (M := M0) hO.2.2.1.2 ⟨hS, hW, hX⟩ (fun i x y => by rw [nm_mr_gt, nm_st_ne (by decide)]; exact a1 i x (by omega))
          · rw [nm_st_nj hj, nm_up_ne hj, nm_gt_frn F1' hL (by decide) (by decide +kernel)]
            refine ⟨(m2 j a b).1, fun e => ?_⟩
            rw [if_neg hj]
            refine nm_MG_kp (nm_ok_I hok a b e) ((m2 j a b).2 e) (fun i x y => ?_)
            rw [nm_mr_gt, nm_mr_gt, nm_st_ne (by decide)]
            refine nm_gt_fr F1 (by have := hL.2.2.1; omega) ?_
            rw [Bool.eq_false_iff]; intro hc
            obtain ⟨q, hq, h1, h2, h3⟩ := nm_in_iff.mp hc
            simp only [List.mem_singleton] at hq
            subst hq
            simp only at h2 h3
            omega, nm_MU_fr m3 hL F2 (by decide +kernel) (by decide +kernel) (by decide +kernel), nm_MP_fr m4 hL F2 (by decide +kernel) (by decide +kernel), nm_MR_fr m5 hL F2 (by decide +kernel) (by decide +kernel), nm_MY_fr m6 hL F2 (by decide +kernel)⟩
        refine nmm_145 (R := nx_R X) (.inl (by decide)) (nm_M_L C2) C2.2.2.2.2.1 (fun M5 F5 r5 => ?_)
        have hL2 := nm_M_L C2
        have hL5 := nm_Lay_fr hL2 F5 (by decide +kernel)
        refine h_152_66 hL5 (hQ M5 (nm_Fr_trans F0 (nm_Fr_trans (nm_mF F2 (by decide +kernel)) (nm_mF F5 (by decide +kernel)))) ?_)
        have r8 : nm_MR M5 (nm_fn1 (nx_R X)) := by unfold nm_tl1 at r5; rw [if_neg (by decide)] at r5; exact r5
        obtain ⟨m1, m2, m3, m4, m5, m6⟩ := C2
        exact ⟨nm_MA_fr m1 F5 (by decide +kernel) (by decide +kernel) (by decide +kernel), fun j a b => ⟨(nm_gt_frn F5 hL2 (by decide) (by decide +kernel)).trans (m2 j a b).1, fun e => nm_MI_fr (by
          show (if j = k then X.1 else X.2.1 j).1 2 ≤ 6
          by_cases hj : j = k
          · rw [if_pos hj]; exact hO.2.2.1.2
          · rw [if_neg hj]
            have e1 : nm_up (nx_K X) k 1 j = 1 := e
            rw [nm_up_ne hj] at e1
            exact nm_ok_I hok a b e1) ((m2 j a b).2 e) hL2 F5 (by decide +kernel)⟩, nm_MU_fr m3 hL2 F5 (by decide +kernel) (by decide +kernel) (by decide +kernel), nm_MP_fr m4 hL2 F5 (by decide +kernel) (by decide +kernel), r8, nm_MY_fr m6 hL2 F5 (by decide +kernel)⟩
      · rw [am_w_id (x := 5510 * k) (by omega) (by omega), am_w_id (x := 5510 * k + (j : Int)) (by omega) (by omega), nm_wk (by omega), nm_gt_frn F1' hL (by decide) (by decide +kernel)]
        refine ⟨by omega, by omega, by omega, by omega, ih (by omega) _ (nm_Fr_st F1 (nm_in_c (lo := 5510 * k) (hi := 5510 * k + 5510) (List.mem_singleton.mpr rfl) (by omega) (by omega))) (fun i x y => ?_)⟩
        rw [nm_gt_st]
        by_cases hi : i = (j : Int)
        · rw [if_pos ⟨rfl, by omega⟩, hi]
        · rw [if_neg (by omega)]; exact a1 i x (by omega)
    exact key 0 (Nat.zero_le _) M0 (nm_Fg_refl _ _) (fun i x y => absurd y (by omega))
  · rw [if_pos (by omega)] at hQ
    exact h_152_12 hL ⟨fun h => absurd rfl h, fun _ => ⟨by omega, nmq_ref (k := 152) hok (by decide) F0 hM0 (fun M' L q => h_152_20 L q) hQ⟩⟩
/-- back -/
theorem nmq_40 {d : Nat} {k : Int} {X : nm_X} {M : am_M} {Q : List am_V → am_M → Prop} (hd : 4 ≤ d) (hok : nm_ok X) (hM : nm_M M X) (hQ : nm_KM (sp_40 X k).1 [(0, (sp_40 X k).2)] M Q) : am_CL d 153 [(2, 214), (0, k)] M Q := by
  have F0 := nm_m0F (M := M)
  have hM0 := nm_m0 hok hM
  have hM1 := hM0
  have hL := nm_M_L hM0
  refine h_153_0 (nm_M_L hM) ⟨by omega, ?_⟩
  generalize am_st M 214 0 0 = M0 at F0 hM0 hM1 hL ⊢
  obtain ⟨m1, m2, m3, m4, m5, m6⟩ := hM1
  have m1' := m1
  obtain ⟨a1, hS, hW, hO, hX, a6⟩ := m1
  unfold sp_40 at hQ
  refine nmm_142 hL (fun k0 k1 => ?_) (fun k0 => ?_)
  · rw [if_neg (by omega)] at hQ
    obtain ⟨e1, e2⟩ := m2 k k0 (by omega)
    refine h_153_12 hL ⟨fun _ => ?_, fun h => absurd h (by decide)⟩
    rw [e1]
    refine ⟨by omega, by omega, fun hk => ?_, fun hk => ?_⟩
    · rw [if_neg hk] at hQ
      obtain ⟨hk1, og⟩ := (hok.2.1 k k0 (by omega)).resolve_left hk
      have gI := e2 hk1
      have key : ∀ j : Nat, j ≤ 5510 → ∀ M1, nm_Fr [(216, 0, 5510)] M0 M1 → (∀ i, 0 ≤ i → i < (j : Int) → am_gt M1 216 i = am_gt M0 217 (5510 * k + i)) → am_WP d am_c153 39 [(2, 214), (0, k), (0, (j : Int))] [] M1 Q := by
        refine nm_dn ?_
        intro j hj ih M1 F1 a1
        have hL1 : nm_Lay M1 := nm_Lay_fr hL F1 (by decide +kernel)
        refine h_153_39 hL1 ⟨fun h => ⟨by omega, ?_⟩, fun h => ?_⟩
        · have hj5 : j = 5510 := by omega
          subst hj5
          have G1 : nm_MG M1 (nx_I X k) := nm_MG_kp og.1.2.2.1.2 gI (fun i x y => by rw [nm_mr_gt]; exact a1 i x (by omega))
          refine h_147_0 hL1 ⟨fun _ => ⟨by omega, ?_⟩, fun h => absurd (by decide) h⟩
          have F2 : nm_Fr [(216, 0, 5510), (214, 8, 9)] M0 (am_st M1 214 8 0) := nm_Fr_st (nm_Fr_sub F1 (by decide)) (by decide)
          have C2 : nm_M (am_st M1 214 8 0) (ns_U (nx_I X k, X.2) []) := ⟨⟨nm_Lay_fr hL F2 (by decide +kernel), fun i hi => by rw [nm_st_ne (by decide)]; exact G1.1 i hi, nm_MW_kp G1.2.1 (fun i => nm_st_ne (by decide)), og.1, nm_MX_kp G1.2.2 (fun i _ => nm_st_ne (by decide)), by rw [nm_gt_frd (g := [(214, 20, 21)]) F2 hL (by decide) (by decide +kernel) (by decide +kernel)]; exact a6⟩, fun k a b => ⟨(nm_gt_frn F2 hL (by decide) (by decide +kernel)).trans (m2 k a b).1, fun e => nm_MI_fr (nm_ok_I hok a b e) ((m2 k a b).2 e) hL F2 (by decide +kernel)⟩, nm_MU_nil nm_st_eq, nm_MP_fr m4 hL F2 (by decide +kernel) (by decide +kernel), nm_MR_fr m5 hL F2 (by decide +kernel) (by decide +kernel), nm_MY_fr m6 hL F2 (by decide +kernel)⟩
          refine nmm_145 (R := nx_R X) (.inl (by decide)) (nm_M_L C2) C2.2.2.2.2.1 (fun M5 F5 r5 => ?_)
          have C5 := nm_M_tell (X0 := X) (X := ns_U (nx_I X k, X.2) []) hok rfl rfl (.inl (by decide)) C2 F5 r5
          rw [nx_tl_fn (by decide)] at C5
          exact h_147_21 (nm_M_L C5) (h_153_75 (nm_M_L C5) (hQ M5 (nm_Fr_trans F0 (nm_Fr_trans (nm_mF F2 (by decide +kernel)) (nm_mF F5 (by decide +kernel)))) C5))
        · rw [am_w_id (x := 5510 * k) (by omega) (by omega), am_w_id (x := 5510 * k + (j : Int)) (by omega) (by omega), nm_wk (by omega), nm_gt_frn F1 hL (by decide) (by decide +kernel)]
          refine ⟨by omega, by omega, by omega, by omega, ih (by omega) _ (nm_Fr_st F1 (nm_in_c (lo := 0) (hi := 5510) (by decide) (by omega) (by omega))) (fun i x y => ?_)⟩
          rw [nm_gt_st]
          by_cases hi : i = (j : Int)
          · rw [if_pos ⟨rfl, by omega⟩, hi]
          · rw [if_neg (by omega)]; exact a1 i x (by omega)
      exact key 0 (Nat.zero_le _) M0 (nm_Fg_refl _ _) (fun i x y => absurd y (by omega))
    · rw [if_pos (by omega)] at hQ
      exact ⟨by omega, nmq_ref (k := 153) hok (by decide) F0 hM0 (fun M' L q => h_153_36 L q) hQ⟩
  · rw [if_pos (by omega)] at hQ
    exact h_153_12 hL ⟨fun h => absurd rfl h, fun _ => ⟨by omega, nmq_ref (k := 153) hok (by decide) F0 hM0 (fun M' L q => h_153_20 L q) hQ⟩⟩
