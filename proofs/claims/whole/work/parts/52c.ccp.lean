/-! A STATE COPIED -/
/-- the slots of texts hold texts, or nothing -/
def nm_TX (M : am_M) (b : Int) : Prop := ∀ k, 0 ≤ k → k < 6 → am_gt M (b + 9) k = -1 ∨ (247 ≤ am_gt M (b + 9) k ∧ am_gt M (b + 9) k < M.1 ∧ am_kd M (am_gt M (b + 9) k) = 5)
theorem nm_TX_fr {n s : Int} {f : nm_Rg} {M M' : am_M} {b : Int} (h : nm_TX M b) (hb : b + 9 < 247) (hL : nm_Lay M) (hF : nm_Fg n s f M M') (hn : nm_no f (b + 9) = true) : nm_TX M' b := by
  intro k k0 k1
  rw [nm_gt_frn hF hL hb hn]
  rcases h k k0 k1 with e | ⟨e1, e2, e3⟩
  · exact .inl e
  · refine .inr ⟨e1, by have := hF.1; omega, ?_⟩
    rw [show am_kd M' _ = am_kd M _ from congrArg Prod.fst (hF.2.2.2.1 _ e2)]; exact e3
theorem nmc_114_186_1 {d : Nat} {S : Int → Int} {W : nm_W} {M : am_M} {Q : List am_V → am_M → Prop} (hd : 2 ≤ d) (hL : nm_Lay M) (hS : nm_CS M 1 S) (hT : nm_TX M 1) (hW : nm_CW M 11 W) (hQ : ∀ M', nm_Fr (nm_Sg 186 ++ [(195, 0, 6)] ++ nm_Wg 196) M M' → nm_CS M' 186 S → (∀ k, 0 ≤ k → k < 6 → am_gt M' 195 k = am_gt M 10 k) → nm_CW M' 196 W → Q [] M') : am_CL d 114 [(2, 186), (2, 1)] M Q := by
  have lay : ∀ {M'}, nm_Fr (nm_Sg 186) M M' → nm_Lay M' := fun F => nm_Lay_fr hL F (by decide +kernel)
  have R := nm_Fg_refl (nm_Sg 186) M
  have F1 := nm_Fr_st (a := 186) (i := 0) (v := am_gt M 1 0) R (by decide)
  have F2 := nm_Fr_cp (a := 2) (i := 0) (b := 187) (j := 0) (m := 6) F1 (fun k x y => nm_in_c (lo := 0) (hi := 6) (by decide) x (by omega))
  have F3 := nm_Fr_cp (a := 3) (i := 0) (b := 188) (j := 0) (m := 30) F2 (fun k x y => nm_in_c (lo := 0) (hi := 30) (by decide) x (by omega))
  have F4 := nm_Fr_cp (a := 4) (i := 0) (b := 189) (j := 0) (m := 6) F3 (fun k x y => nm_in_c (lo := 0) (hi := 6) (by decide) x (by omega))
  have F5 := nm_Fr_cp (a := 5) (i := 0) (b := 190) (j := 0) (m := 6) F4 (fun k x y => nm_in_c (lo := 0) (hi := 6) (by decide) x (by omega))
  have F6 := nm_Fr_cp (a := 6) (i := 0) (b := 191) (j := 0) (m := 8) F5 (fun k x y => nm_in_c (lo := 0) (hi := 8) (by decide) x (by omega))
  refine h_186_1_114_0 hL (h_186_1_114_8 (lay F1) ⟨by omega, h_186_1_114_23 (lay F2) ⟨by omega, h_186_1_114_38 (lay F3) ⟨by omega, h_186_1_114_53 (lay F4) ⟨by omega, h_186_1_114_68 (lay F5) ⟨by omega, h_186_1_114_83 (lay F6) ?_⟩⟩⟩⟩⟩)
  generalize hM6 : am_cp (am_cp (am_cp (am_cp (am_cp (am_st M 186 0 (am_gt M 1 0)) 2 0 187 0 6) 3 0 188 0 30) 4 0 189 0 6) 5 0 190 0 6) 6 0 191 0 8 = M6 at F6 ⊢
  have g6 : ∀ a i, a ≠ 186 → a ≠ 187 → a ≠ 188 → a ≠ 189 → a ≠ 190 → a ≠ 191 → am_gt M6 a i = am_gt M a i := by
    intro a i n0 n1 n2 n3 n4 n5
    subst hM6
    simp only [nm_gt_cp, nm_gt_st, n0, n1, n2, n3, n4, n5, false_and, if_false]
  have c6 : ∀ a i j, nm_ci 186 a i j → (j = 0 ∨ (29 ≤ j ∧ j < 85)) → am_gt M6 a i = S j := by
    intro a i j hc hj
    subst hM6
    rcases hc with ⟨rfl, ⟨rfl, rfl⟩ | ⟨rfl, rfl⟩ | ⟨rfl, rfl⟩ | ⟨rfl, rfl⟩ | ⟨rfl, rfl⟩ | ⟨rfl, rfl⟩ | ⟨rfl, rfl⟩⟩ | ⟨rfl, x, y, rfl⟩ | ⟨rfl, x, y, rfl⟩ | ⟨rfl, x, y, rfl⟩ | ⟨rfl, x, y, rfl⟩ | ⟨rfl, x, y, rfl⟩ | ⟨rfl, x, y, rfl⟩ | ⟨rfl, x, y, rfl⟩ | ⟨rfl, x, y, rfl⟩
    · simp only [nm_gt_cp, nm_gt_st, Int.reduceEq, false_and, and_self, if_false, if_true]; exact hS.1
    · omega
    · omega
    · omega
    · omega
    · omega
    · omega
    · simp only [nm_gt_cp, nm_gt_st, Int.reduceAdd, Int.reduceEq, Int.zero_add, x, y, true_and, and_true, false_and, and_self, if_false, if_true, Int.sub_zero, Int.add_zero]; exact nm_CS_at hS (nm_cA (by omega))
    · simp only [nm_gt_cp, nm_gt_st, Int.reduceAdd, Int.reduceEq, Int.zero_add, x, y, true_and, and_true, false_and, and_self, if_false, if_true, Int.sub_zero, Int.add_zero]; exact nm_CS_at hS (nm_cB (by omega))
    · simp only [nm_gt_cp, nm_gt_st, Int.reduceAdd, Int.reduceEq, Int.zero_add, x, y, true_and, and_true, false_and, and_self, if_false, if_true, Int.sub_zero, Int.add_zero]; exact nm_CS_at hS (nm_cC (by omega))
    · simp only [nm_gt_cp, nm_gt_st, Int.reduceAdd, Int.reduceEq, Int.zero_add, x, y, true_and, and_true, false_and, and_self, if_false, if_true, Int.sub_zero, Int.add_zero]; exact nm_CS_at hS (nm_cD (by omega))
    · simp only [nm_gt_cp, nm_gt_st, Int.reduceAdd, Int.reduceEq, Int.zero_add, x, y, true_and, and_true, false_and, and_self, if_false, if_true, Int.sub_zero, Int.add_zero]; exact nm_CS_at hS (nm_cE (by omega))
    · omega
    · omega
    · omega
  have F7 := nm_Fr_st (a := 186) (i := 6) (v := am_gt M6 1 6) F6 (by decide)
  have F8 := nm_Fr_cp (a := 7) (i := 0) (b := 192) (j := 0) (m := 8) F7 (fun k x y => nm_in_c (lo := 0) (hi := 8) (by decide) x (by omega))
  have F9 := nm_Fr_cp (a := 8) (i := 0) (b := 193) (j := 0) (m := 8) F8 (fun k x y => nm_in_c (lo := 0) (hi := 8) (by decide) x (by omega))
  have F10 := nm_Fr_cp (a := 9) (i := 0) (b := 194) (j := 0) (m := 8) F9 (fun k x y => nm_in_c (lo := 0) (hi := 8) (by decide) x (by omega))
  refine h_186_1_114_91 (lay F7) ⟨by omega, h_186_1_114_106 (lay F8) ⟨by omega, h_186_1_114_121 (lay F9) ⟨by omega, h_186_1_114_136 (lay F10) ?_⟩⟩⟩
  generalize hM10 : am_cp (am_cp (am_cp (am_st M6 186 6 (am_gt M6 1 6)) 7 0 192 0 8) 8 0 193 0 8) 9 0 194 0 8 = M10 at F10 ⊢
  have g10 : ∀ a i, (a < 186 ∨ 194 < a) → am_gt M10 a i = am_gt M a i := by
    intro a i n0
    have e0 : (a = 186) = False := eq_false (by omega)
    have e6 : (a = 192) = False := eq_false (by omega)
    have e7 : (a = 193) = False := eq_false (by omega)
    have e8 : (a = 194) = False := eq_false (by omega)
    subst hM10
    simp only [nm_gt_cp, nm_gt_st, e0, e6, e7, e8, false_and, if_false]
    exact g6 a i (by omega) (by omega) (by omega) (by omega) (by omega) (by omega)
  have c10 : ∀ a i j, nm_ci 186 a i j → (j = 0 ∨ j = 1 ∨ 29 ≤ j) → am_gt M10 a i = S j := by
    intro a i j hc hj
    by_cases hj2 : j = 0 ∨ (29 ≤ j ∧ j < 85)
    · have := c6 a i j hc hj2
      subst hM10
      rcases hc with ⟨rfl, ⟨rfl, rfl⟩ | ⟨rfl, rfl⟩ | ⟨rfl, rfl⟩ | ⟨rfl, rfl⟩ | ⟨rfl, rfl⟩ | ⟨rfl, rfl⟩ | ⟨rfl, rfl⟩⟩ | ⟨rfl, x, y, rfl⟩ | ⟨rfl, x, y, rfl⟩ | ⟨rfl, x, y, rfl⟩ | ⟨rfl, x, y, rfl⟩ | ⟨rfl, x, y, rfl⟩ | ⟨rfl, x, y, rfl⟩ | ⟨rfl, x, y, rfl⟩ | ⟨rfl, x, y, rfl⟩
      all_goals first
        | omega
        | (simp only [nm_gt_cp, nm_gt_st, Int.reduceAdd, Int.reduceEq, false_and, and_false, if_false] at this ⊢; exact this)
    · subst hM10
      rcases hc with ⟨rfl, ⟨rfl, rfl⟩ | ⟨rfl, rfl⟩ | ⟨rfl, rfl⟩ | ⟨rfl, rfl⟩ | ⟨rfl, rfl⟩ | ⟨rfl, rfl⟩ | ⟨rfl, rfl⟩⟩ | ⟨rfl, x, y, rfl⟩ | ⟨rfl, x, y, rfl⟩ | ⟨rfl, x, y, rfl⟩ | ⟨rfl, x, y, rfl⟩ | ⟨rfl, x, y, rfl⟩ | ⟨rfl, x, y, rfl⟩ | ⟨rfl, x, y, rfl⟩ | ⟨rfl, x, y, rfl⟩
      all_goals first
        | omega
        | (simp only [nm_gt_cp, nm_gt_st, Int.reduceEq, false_and, and_self, if_false, if_true]; rw [g6 _ _ (by decide) (by decide) (by decide) (by decide) (by decide) (by decide)]; exact hS.2.1)
        | (simp only [nm_gt_cp, nm_gt_st, Int.reduceAdd, Int.reduceEq, Int.zero_add, x, y, true_and, and_true, false_and, and_self, if_false, if_true, Int.sub_zero, Int.add_zero]; rw [g6 _ _ (by decide) (by decide) (by decide) (by decide) (by decide) (by decide)]; first | exact nm_CS_at hS (nm_cF1 (by omega)) | exact nm_CS_at hS (nm_cG (by omega)) | exact nm_CS_at hS (nm_cH (by omega)))
  have F11 := nm_Fr_st (a := 186) (i := 10) (v := am_gt M10 1 10) F10 (by decide)
  refine h_186_1_114_144 (lay F11) ?_
  have F12 := nm_Fr_st (a := 186) (i := 11) (v := am_gt (am_st M10 186 10 (am_gt M10 1 10)) 1 11) F11 (by decide)
  refine h_186_1_114_152 (lay F12) ?_
  have e11 : am_gt (am_st M10 186 10 (am_gt M10 1 10)) 1 11 = S 6 := by rw [nm_st_ne (by decide), g10 _ _ (by decide)]; exact nm_CS_at hS nm_c6
  have e10 : am_gt M10 1 10 = S 5 := by rw [g10 _ _ (by decide)]; exact nm_CS_at hS nm_c5
  have e12 : am_gt (am_st (am_st M10 186 10 (S 5)) 186 11 (S 6)) 1 12 = S 7 := by rw [nm_st_ne (by decide), nm_st_ne (by decide), g10 _ _ (by decide)]; exact nm_CS_at hS nm_c7
  have e13 : am_gt (am_st (am_st M10 186 10 (S 5)) 186 11 (S 6)) 1 13 = S 2 := by rw [nm_st_ne (by decide), nm_st_ne (by decide), g10 _ _ (by decide)]; exact nm_CS_at hS nm_c2
  rw [e11] at F12 ⊢
  rw [e10] at F12 ⊢
  rw [e12, e13]
  have F14 := nm_Fr_st (a := 186) (i := 13) (v := S 2) (nm_Fr_st (a := 186) (i := 12) (v := S 7) F12 (by decide)) (by decide)
  generalize hM14 : am_st (am_st (am_st (am_st M10 186 10 (S 5)) 186 11 (S 6)) 186 12 (S 7)) 186 13 (S 2) = M14 at F14 ⊢
  have g14 : ∀ a i, (a < 186 ∨ 194 < a) → am_gt M14 a i = am_gt M a i := by
    intro a i n0
    subst hM14
    rw [nm_st_ne (by omega), nm_st_ne (by omega), nm_st_ne (by omega), nm_st_ne (by omega)]
    exact g10 a i n0
  have c14 : ∀ a i j, nm_ci 186 a i j → j ≠ 3 → am_gt M14 a i = S j := by
    intro a i j hc hj
    subst hM14
    by_cases hj2 : j = 0 ∨ j = 1 ∨ 29 ≤ j
    · rw [nm_gt_st, if_neg (by unfold nm_ci at hc; omega), nm_gt_st, if_neg (by unfold nm_ci at hc; omega), nm_gt_st, if_neg (by unfold nm_ci at hc; omega), nm_gt_st, if_neg (by unfold nm_ci at hc; omega)]
      exact c10 a i j hc hj2
    · have hx : a = 186 ∧ ((i = 13 ∧ j = 2) ∨ (i = 10 ∧ j = 5) ∨ (i = 11 ∧ j = 6) ∨ (i = 12 ∧ j = 7)) := by unfold nm_ci at hc; omega
      obtain ⟨rfl, ⟨rfl, rfl⟩ | ⟨rfl, rfl⟩ | ⟨rfl, rfl⟩ | ⟨rfl, rfl⟩⟩ := hx <;> simp only [nm_gt_st, Int.reduceEq, and_false, and_self, if_false, if_true]
  have key : ∀ k : Nat, k ≤ 6 → ∀ M1, nm_Fr (nm_Sg 186 ++ [(195, 0, 6)]) M M1 → nm_Fr [(195, 0, 6)] M14 M1 → (∀ j, 0 ≤ j → j < (k : Int) → am_gt M1 195 j = am_gt M 10 j) → am_WP d am_c114 170 [(2, 186), (2, 1), (0, (k : Int))] [] M1 Q := by
    refine nm_dn ?_
    intro k hk ih M1 F F' a1
    have hL14 := lay F14
    have hL1 := nm_Lay_fr hL F (by decide +kernel)
    have hcg : ∀ a i, (a < 186 ∨ 195 < a) → a < 247 → am_gt M1 a i = am_gt M a i := by
      intro a i n0 n1
      rw [nm_gt_fr F' (by have := hL14.2.2.1; omega) (nm_in_no (by unfold nm_no; simp only [List.all_cons, List.all_nil, Bool.and_true, Bool.not_eq_true', decide_eq_false_iff_not]; omega))]
      exact g14 a i (by omega)
    refine h_186_1_114_170 hL1 ⟨fun h => ⟨by omega, ?_⟩, fun h => ?_⟩
    · have hk6 : k = 6 := by omega
      subst hk6
      have e15 : am_gt M1 1 15 = S 3 := by rw [hcg _ _ (by decide) (by decide)]; exact nm_CS_at hS nm_c3
      rw [e15]
      have F2 : nm_Fr (nm_Sg 186 ++ [(195, 0, 6)]) M (am_st M1 186 15 (S 3)) := nm_Fr_st F (by decide)
      have F2' : nm_Fr [(186, 15, 16)] M1 (am_st M1 186 15 (S 3)) := nm_Fr_st (nm_Fg_refl _ _) (by decide)
      have hL2 := nm_Lay_fr hL F2 (by decide +kernel)
      have hW2 := nm_CW_fr hW hL (by decide) F2 (by decide)
      have cS : nm_CS (am_st M1 186 15 (S 3)) 186 S := by
        refine nm_CS_of (fun a i j hc => ?_)
        by_cases hj : j = 3
        · have hx : a = 186 ∧ i = 15 := by unfold nm_ci at hc; omega
          obtain ⟨rfl, rfl⟩ := hx
          rw [nm_st_eq, hj]
        · have hx : ¬ (a = 186 ∧ i = 15) := by unfold nm_ci at hc; omega
          have hy : a < 247 ∧ a ≠ 195 := by unfold nm_ci at hc; omega
          rw [nm_gt_st, if_neg hx, nm_gt_fr F' (by have := hL14.2.2.1; omega) (nm_in_no (by unfold nm_no; simp only [List.all_cons, List.all_nil, Bool.and_true, Bool.not_eq_true', decide_eq_false_iff_not]; omega))]
          exact c14 a i j hc hj
      refine nmc_136 (by omega) hL2 (by decide) (by decide) (by decide) hW2 (fun M3 F3 hW3 => ?_)
      have hL3 := nm_Lay_fr hL2 F3 (by decide +kernel)
      refine h_186_1_114_213 hL3 (hQ M3 (nm_Fr_trans (nm_Fr_appl F2) (nm_Fr_appr F3)) (nm_CS_fr cS hL2 (by decide) F3 (by decide)) (fun j j0 j1 => ?_) hW3)
      rw [nm_gt_frn F3 hL2 (by decide) (by decide), nm_st_ne (by decide)]
      exact a1 j j0 (by omega)
    · have e9 : am_gt M1 10 (k : Int) = am_gt M 10 (k : Int) := hcg _ _ (by decide) (by decide)
      rw [e9, nm_wk (by omega)]
      refine ⟨by omega, by omega, ?_, ih (by omega) _ (nm_Fr_st F (nm_in_c (lo := 0) (hi := 6) (by decide) (by omega) (by omega))) (nm_Fr_st F' (nm_in_c (lo := 0) (hi := 6) (by decide) (by omega) (by omega))) (fun j j0 j1 => ?_)⟩
      · rcases hT (k : Int) (by omega) (by omega) with e | ⟨e1, e2, e3⟩
        · exact .inl e
        · exact .inr ((congrArg Prod.fst (F.2.2.2.1 _ e2)).trans e3)
      · rw [nm_gt_st]
        by_cases hj : j = (k : Int)
        · rw [if_pos ⟨rfl, hj⟩, hj]
        · rw [if_neg (fun c => hj c.2)]; exact a1 j j0 (by omega)
  exact key 0 (Nat.zero_le _) M14 (nm_Fr_appl F14) (nm_Fg_refl _ _) (fun j j0 j1 => absurd j1 (by omega))
theorem nmc_114_200_1 {d : Nat} {S : Int → Int} {W : nm_W} {M : am_M} {Q : List am_V → am_M → Prop} (hd : 2 ≤ d) (hL : nm_Lay M) (hS : nm_CS M 1 S) (hT : nm_TX M 1) (hW : nm_CW M 11 W) (hQ : ∀ M', nm_Fr (nm_Sg 200 ++ [(209, 0, 6)] ++ nm_Wg 210) M M' → nm_CS M' 200 S → (∀ k, 0 ≤ k → k < 6 → am_gt M' 209 k = am_gt M 10 k) → nm_CW M' 210 W → Q [] M') : am_CL d 114 [(2, 200), (2, 1)] M Q := by
  have lay : ∀ {M'}, nm_Fr (nm_Sg 200) M M' → nm_Lay M' := fun F => nm_Lay_fr hL F (by decide +kernel)
  have R := nm_Fg_refl (nm_Sg 200) M
  have F1 := nm_Fr_st (a := 200) (i := 0) (v := am_gt M 1 0) R (by decide)
  have F2 := nm_Fr_cp (a := 2) (i := 0) (b := 201) (j := 0) (m := 6) F1 (fun k x y => nm_in_c (lo := 0) (hi := 6) (by decide) x (by omega))
  have F3 := nm_Fr_cp (a := 3) (i := 0) (b := 202) (j := 0) (m := 30) F2 (fun k x y => nm_in_c (lo := 0) (hi := 30) (by decide) x (by omega))
  have F4 := nm_Fr_cp (a := 4) (i := 0) (b := 203) (j := 0) (m := 6) F3 (fun k x y => nm_in_c (lo := 0) (hi := 6) (by decide) x (by omega))
  have F5 := nm_Fr_cp (a := 5) (i := 0) (b := 204) (j := 0) (m := 6) F4 (fun k x y => nm_in_c (lo := 0) (hi := 6) (by decide) x (by omega))
  have F6 := nm_Fr_cp (a := 6) (i := 0) (b := 205) (j := 0) (m := 8) F5 (fun k x y => nm_in_c (lo := 0) (hi := 8) (by decide) x (by omega))
  refine h_200_1_114_0 hL (h_200_1_114_8 (lay F1) ⟨by omega, h_200_1_114_23 (lay F2) ⟨by omega, h_200_1_114_38 (lay F3) ⟨by omega, h_200_1_114_53 (lay F4) ⟨by omega, h_200_1_114_68 (lay F5) ⟨by omega, h_200_1_114_83 (lay F6) ?_⟩⟩⟩⟩⟩)
  generalize hM6 : am_cp (am_cp (am_cp (am_cp (am_cp (am_st M 200 0 (am_gt M 1 0)) 2 0 201 0 6) 3 0 202 0 30) 4 0 203 0 6) 5 0 204 0 6) 6 0 205 0 8 = M6 at F6 ⊢
  have g6 : ∀ a i, a ≠ 200 → a ≠ 201 → a ≠ 202 → a ≠ 203 → a ≠ 204 → a ≠ 205 → am_gt M6 a i = am_gt M a i := by
    intro a i n0 n1 n2 n3 n4 n5
    subst hM6
    simp only [nm_gt_cp, nm_gt_st, n0, n1, n2, n3, n4, n5, false_and, if_false]
  have c6 : ∀ a i j, nm_ci 200 a i j → (j = 0 ∨ (29 ≤ j ∧ j < 85)) → am_gt M6 a i = S j := by
    intro a i j hc hj
    subst hM6
    rcases hc with ⟨rfl, ⟨rfl, rfl⟩ | ⟨rfl, rfl⟩ | ⟨rfl, rfl⟩ | ⟨rfl, rfl⟩ | ⟨rfl, rfl⟩ | ⟨rfl, rfl⟩ | ⟨rfl, rfl⟩⟩ | ⟨rfl, x, y, rfl⟩ | ⟨rfl, x, y, rfl⟩ | ⟨rfl, x, y, rfl⟩ | ⟨rfl, x, y, rfl⟩ | ⟨rfl, x, y, rfl⟩ | ⟨rfl, x, y, rfl⟩ | ⟨rfl, x, y, rfl⟩ | ⟨rfl, x, y, rfl⟩
    · simp only [nm_gt_cp, nm_gt_st, Int.reduceEq, false_and, and_self, if_false, if_true]; exact hS.1
    · omega
    · omega
    · omega
    · omega
    · omega
    · omega
    · simp only [nm_gt_cp, nm_gt_st, Int.reduceAdd, Int.reduceEq, Int.zero_add, x, y, true_and, and_true, false_and, and_self, if_false, if_true, Int.sub_zero, Int.add_zero]; exact nm_CS_at hS (nm_cA (by omega))
    · simp only [nm_gt_cp, nm_gt_st, Int.reduceAdd, Int.reduceEq, Int.zero_add, x, y, true_and, and_true, false_and, and_self, if_false, if_true, Int.sub_zero, Int.add_zero]; exact nm_CS_at hS (nm_cB (by omega))
    · simp only [nm_gt_cp, nm_gt_st, Int.reduceAdd, Int.reduceEq, Int.zero_add, x, y, true_and, and_true, false_and, and_self, if_false, if_true, Int.sub_zero, Int.add_zero]; exact nm_CS_at hS (nm_cC (by omega))
    · simp only [nm_gt_cp, nm_gt_st, Int.reduceAdd, Int.reduceEq, Int.zero_add, x, y, true_and, and_true, false_and, and_self, if_false, if_true, Int.sub_zero, Int.add_zero]; exact nm_CS_at hS (nm_cD (by omega))
    · simp only [nm_gt_cp, nm_gt_st, Int.reduceAdd, Int.reduceEq, Int.zero_add, x, y, true_and, and_true, false_and, and_self, if_false, if_true, Int.sub_zero, Int.add_zero]; exact nm_CS_at hS (nm_cE (by omega))
    · omega
    · omega
    · omega
  have F7 := nm_Fr_st (a := 200) (i := 6) (v := am_gt M6 1 6) F6 (by decide)
  have F8 := nm_Fr_cp (a := 7) (i := 0) (b := 206) (j := 0) (m := 8) F7 (fun k x y => nm_in_c (lo := 0) (hi := 8) (by decide) x (by omega))
  have F9 := nm_Fr_cp (a := 8) (i := 0) (b := 207) (j := 0) (m := 8) F8 (fun k x y => nm_in_c (lo := 0) (hi := 8) (by decide) x (by omega))
  have F10 := nm_Fr_cp (a := 9) (i := 0) (b := 208) (j := 0) (m := 8) F9 (fun k x y => nm_in_c (lo := 0) (hi := 8) (by decide) x (by omega))
  refine h_200_1_114_91 (lay F7) ⟨by omega, h_200_1_114_106 (lay F8) ⟨by omega, h_200_1_114_121 (lay F9) ⟨by omega, h_200_1_114_136 (lay F10) ?_⟩⟩⟩
  generalize hM10 : am_cp (am_cp (am_cp (am_st M6 200 6 (am_gt M6 1 6)) 7 0 206 0 8) 8 0 207 0 8) 9 0 208 0 8 = M10 at F10 ⊢
  have g10 : ∀ a i, (a < 200 ∨ 208 < a) → am_gt M10 a i = am_gt M a i := by
    intro a i n0
    have e0 : (a = 200) = False := eq_false (by omega)
    have e6 : (a = 206) = False := eq_false (by omega)
    have e7 : (a = 207) = False := eq_false (by omega)
    have e8 : (a = 208) = False := eq_false (by omega)
    subst hM10
    simp only [nm_gt_cp, nm_gt_st, e0, e6, e7, e8, false_and, if_false]
    exact g6 a i (by omega) (by omega) (by omega) (by omega) (by omega) (by omega)
  have c10 : ∀ a i j, nm_ci 200 a i j → (j = 0 ∨ j = 1 ∨ 29 ≤ j) → am_gt M10 a i = S j := by
    intro a i j hc hj
    by_cases hj2 : j = 0 ∨ (29 ≤ j ∧ j < 85)
    · have := c6 a i j hc hj2
      subst hM10
      rcases hc with ⟨rfl, ⟨rfl, rfl⟩ | ⟨rfl, rfl⟩ | ⟨rfl, rfl⟩ | ⟨rfl, rfl⟩ | ⟨rfl, rfl⟩ | ⟨rfl, rfl⟩ | ⟨rfl, rfl⟩⟩ | ⟨rfl, x, y, rfl⟩ | ⟨rfl, x, y, rfl⟩ | ⟨rfl, x, y, rfl⟩ | ⟨rfl, x, y, rfl⟩ | ⟨rfl, x, y, rfl⟩ | ⟨rfl, x, y, rfl⟩ | ⟨rfl, x, y, rfl⟩ | ⟨rfl, x, y, rfl⟩
      all_goals first
        | omega
        | (simp only [nm_gt_cp, nm_gt_st, Int.reduceAdd, Int.reduceEq, false_and, and_false, if_false] at this ⊢; exact this)
    · subst hM10
      rcases hc with ⟨rfl, ⟨rfl, rfl⟩ | ⟨rfl, rfl⟩ | ⟨rfl, rfl⟩ | ⟨rfl, rfl⟩ | ⟨rfl, rfl⟩ | ⟨rfl, rfl⟩ | ⟨rfl, rfl⟩⟩ | ⟨rfl, x, y, rfl⟩ | ⟨rfl, x, y, rfl⟩ | ⟨rfl, x, y, rfl⟩ | ⟨rfl, x, y, rfl⟩ | ⟨rfl, x, y, rfl⟩ | ⟨rfl, x, y, rfl⟩ | ⟨rfl, x, y, rfl⟩ | ⟨rfl, x, y, rfl⟩
      all_goals first
        | omega
        | (simp only [nm_gt_cp, nm_gt_st, Int.reduceEq, false_and, and_self, if_false, if_true]; rw [g6 _ _ (by decide) (by decide) (by decide) (by decide) (by decide) (by decide)]; exact hS.2.1)
        | (simp only [nm_gt_cp, nm_gt_st, Int.reduceAdd, Int.reduceEq, Int.zero_add, x, y, true_and, and_true, false_and, and_self, if_false, if_true, Int.sub_zero, Int.add_zero]; rw [g6 _ _ (by decide) (by decide) (by decide) (by decide) (by decide) (by decide)]; first | exact nm_CS_at hS (nm_cF1 (by omega)) | exact nm_CS_at hS (nm_cG (by omega)) | exact nm_CS_at hS (nm_cH (by omega)))
  have F11 := nm_Fr_st (a := 200) (i := 10) (v := am_gt M10 1 10) F10 (by decide)
  refine h_200_1_114_144 (lay F11) ?_
  have F12 := nm_Fr_st (a := 200) (i := 11) (v := am_gt (am_st M10 200 10 (am_gt M10 1 10)) 1 11) F11 (by decide)
  refine h_200_1_114_152 (lay F12) ?_
  have e11 : am_gt (am_st M10 200 10 (am_gt M10 1 10)) 1 11 = S 6 := by rw [nm_st_ne (by decide), g10 _ _ (by decide)]; exact nm_CS_at hS nm_c6
  have e10 : am_gt M10 1 10 = S 5 := by rw [g10 _ _ (by decide)]; exact nm_CS_at hS nm_c5
  have e12 : am_gt (am_st (am_st M10 200 10 (S 5)) 200 11 (S 6)) 1 12 = S 7 := by rw [nm_st_ne (by decide), nm_st_ne (by decide), g10 _ _ (by decide)]; exact nm_CS_at hS nm_c7
  have e13 : am_gt (am_st (am_st M10 200 10 (S 5)) 200 11 (S 6)) 1 13 = S 2 := by rw [nm_st_ne (by decide), nm_st_ne (by decide), g10 _ _ (by decide)]; exact nm_CS_at hS nm_c2
  rw [e11] at F12 ⊢
  rw [e10] at F12 ⊢
  rw [e12, e13]
  have F14 := nm_Fr_st (a := 200) (i := 13) (v := S 2) (nm_Fr_st (a := 200) (i := 12) (v := S 7) F12 (by decide)) (by decide)
  generalize hM14 : am_st (am_st (am_st (am_st M10 200 10 (S 5)) 200 11 (S 6)) 200 12 (S 7)) 200 13 (S 2) = M14 at F14 ⊢
  have g14 : ∀ a i, (a < 200 ∨ 208 < a) → am_gt M14 a i = am_gt M a i := by
    intro a i n0
    subst hM14
    rw [nm_st_ne (by omega), nm_st_ne (by omega), nm_st_ne (by omega), nm_st_ne (by omega)]
    exact g10 a i n0
  have c14 : ∀ a i j, nm_ci 200 a i j → j ≠ 3 → am_gt M14 a i = S j := by
    intro a i j hc hj
    subst hM14
    by_cases hj2 : j = 0 ∨ j = 1 ∨ 29 ≤ j
    · rw [nm_gt_st, if_neg (by unfold nm_ci at hc; omega), nm_gt_st, if_neg (by unfold nm_ci at hc; omega), nm_gt_st, if_neg (by unfold nm_ci at hc; omega), nm_gt_st, if_neg (by unfold nm_ci at hc; omega)]
      exact c10 a i j hc hj2
    · have hx : a = 200 ∧ ((i = 13 ∧ j = 2) ∨ (i = 10 ∧ j = 5) ∨ (i = 11 ∧ j = 6) ∨ (i = 12 ∧ j = 7)) := by unfold nm_ci at hc; omega
      obtain ⟨rfl, ⟨rfl, rfl⟩ | ⟨rfl, rfl⟩ | ⟨rfl, rfl⟩ | ⟨rfl, rfl⟩⟩ := hx <;> simp only [nm_gt_st, Int.reduceEq, and_false, and_self, if_false, if_true]
  have key : ∀ k : Nat, k ≤ 6 → ∀ M1, nm_Fr (nm_Sg 200 ++ [(209, 0, 6)]) M M1 → nm_Fr [(209, 0, 6)] M14 M1 → (∀ j, 0 ≤ j → j < (k : Int) → am_gt M1 209 j = am_gt M 10 j) → am_WP d am_c114 170 [(2, 200), (2, 1), (0, (k : Int))] [] M1 Q := by
    refine nm_dn ?_
    intro k hk ih M1 F F' a1
    have hL14 := lay F14
    have hL1 := nm_Lay_fr hL F (by decide +kernel)
    have hcg : ∀ a i, (a < 200 ∨ 209 < a) → a < 247 → am_gt M1 a i = am_gt M a i := by
      intro a i n0 n1
      rw [nm_gt_fr F' (by have := hL14.2.2.1; omega) (nm_in_no (by unfold nm_no; simp only [List.all_cons, List.all_nil, Bool.and_true, Bool.not_eq_true', decide_eq_false_iff_not]; omega))]
      exact g14 a i (by omega)
    refine h_200_1_114_170 hL1 ⟨fun h => ⟨by omega, ?_⟩, fun h => ?_⟩
    · have hk6 : k = 6 := by omega
      subst hk6
      have e15 : am_gt M1 1 15 = S 3 := by rw [hcg _ _ (by decide) (by decide)]; exact nm_CS_at hS nm_c3
      rw [e15]
      have F2 : nm_Fr (nm_Sg 200 ++ [(209, 0, 6)]) M (am_st M1 200 15 (S 3)) := nm_Fr_st F (by decide)
      have F2' : nm_Fr [(200, 15, 16)] M1 (am_st M1 200 15 (S 3)) := nm_Fr_st (nm_Fg_refl _ _) (by decide)
      have hL2 := nm_Lay_fr hL F2 (by decide +kernel)
      have hW2 := nm_CW_fr hW hL (by decide) F2 (by decide)
      have cS : nm_CS (am_st M1 200 15 (S 3)) 200 S := by
        refine nm_CS_of (fun a i j hc => ?_)
        by_cases hj : j = 3
        · have hx : a = 200 ∧ i = 15 := by unfold nm_ci at hc; omega
          obtain ⟨rfl, rfl⟩ := hx
          rw [nm_st_eq, hj]
        · have hx : ¬ (a = 200 ∧ i = 15) := by unfold nm_ci at hc; omega
          have hy : a < 247 ∧ a ≠ 209 := by unfold nm_ci at hc; omega
          rw [nm_gt_st, if_neg hx, nm_gt_fr F' (by have := hL14.2.2.1; omega) (nm_in_no (by unfold nm_no; simp only [List.all_cons, List.all_nil, Bool.and_true, Bool.not_eq_true', decide_eq_false_iff_not]; omega))]
          exact c14 a i j hc hj
      refine nmc_136 (by omega) hL2 (by decide) (by decide) (by decide) hW2 (fun M3 F3 hW3 => ?_)
      have hL3 := nm_Lay_fr hL2 F3 (by decide +kernel)
      refine h_200_1_114_213 hL3 (hQ M3 (nm_Fr_trans (nm_Fr_appl F2) (nm_Fr_appr F3)) (nm_CS_fr cS hL2 (by decide) F3 (by decide)) (fun j j0 j1 => ?_) hW3)
      rw [nm_gt_frn F3 hL2 (by decide) (by decide), nm_st_ne (by decide)]
      exact a1 j j0 (by omega)
    · have e9 : am_gt M1 10 (k : Int) = am_gt M 10 (k : Int) := hcg _ _ (by decide) (by decide)
      rw [e9, nm_wk (by omega)]
      refine ⟨by omega, by omega, ?_, ih (by omega) _ (nm_Fr_st F (nm_in_c (lo := 0) (hi := 6) (by decide) (by omega) (by omega))) (nm_Fr_st F' (nm_in_c (lo := 0) (hi := 6) (by decide) (by omega) (by omega))) (fun j j0 j1 => ?_)⟩
      · rcases hT (k : Int) (by omega) (by omega) with e | ⟨e1, e2, e3⟩
        · exact .inl e
        · exact .inr ((congrArg Prod.fst (F.2.2.2.1 _ e2)).trans e3)
      · rw [nm_gt_st]
        by_cases hj : j = (k : Int)
        · rw [if_pos ⟨rfl, hj⟩, hj]
        · rw [if_neg (fun c => hj c.2)]; exact a1 j j0 (by omega)
  exact key 0 (Nat.zero_le _) M14 (nm_Fr_appl F14) (nm_Fg_refl _ _) (fun j j0 j1 => absurd j1 (by omega))
theorem nmc_114_1_186 {d : Nat} {S : Int → Int} {W : nm_W} {M : am_M} {Q : List am_V → am_M → Prop} (hd : 2 ≤ d) (hL : nm_Lay M) (hS : nm_CS M 186 S) (hT : nm_TX M 186) (hW : nm_CW M 196 W) (hQ : ∀ M', nm_Fr (nm_Sg 1 ++ [(10, 0, 6)] ++ nm_Wg 11) M M' → nm_CS M' 1 S → (∀ k, 0 ≤ k → k < 6 → am_gt M' 10 k = am_gt M 195 k) → nm_CW M' 11 W → Q [] M') : am_CL d 114 [(2, 1), (2, 186)] M Q := by
  have lay : ∀ {M'}, nm_Fr (nm_Sg 1) M M' → nm_Lay M' := fun F => nm_Lay_fr hL F (by decide +kernel)
  have R := nm_Fg_refl (nm_Sg 1) M
  have F1 := nm_Fr_st (a := 1) (i := 0) (v := am_gt M 186 0) R (by decide)
  have F2 := nm_Fr_cp (a := 187) (i := 0) (b := 2) (j := 0) (m := 6) F1 (fun k x y => nm_in_c (lo := 0) (hi := 6) (by decide) x (by omega))
  have F3 := nm_Fr_cp (a := 188) (i := 0) (b := 3) (j := 0) (m := 30) F2 (fun k x y => nm_in_c (lo := 0) (hi := 30) (by decide) x (by omega))
  have F4 := nm_Fr_cp (a := 189) (i := 0) (b := 4) (j := 0) (m := 6) F3 (fun k x y => nm_in_c (lo := 0) (hi := 6) (by decide) x (by omega))
  have F5 := nm_Fr_cp (a := 190) (i := 0) (b := 5) (j := 0) (m := 6) F4 (fun k x y => nm_in_c (lo := 0) (hi := 6) (by decide) x (by omega))
  have F6 := nm_Fr_cp (a := 191) (i := 0) (b := 6) (j := 0) (m := 8) F5 (fun k x y => nm_in_c (lo := 0) (hi := 8) (by decide) x (by omega))
  refine h_1_186_114_0 hL (h_1_186_114_8 (lay F1) ⟨by omega, h_1_186_114_23 (lay F2) ⟨by omega, h_1_186_114_38 (lay F3) ⟨by omega, h_1_186_114_53 (lay F4) ⟨by omega, h_1_186_114_68 (lay F5) ⟨by omega, h_1_186_114_83 (lay F6) ?_⟩⟩⟩⟩⟩)
  generalize hM6 : am_cp (am_cp (am_cp (am_cp (am_cp (am_st M 1 0 (am_gt M 186 0)) 187 0 2 0 6) 188 0 3 0 30) 189 0 4 0 6) 190 0 5 0 6) 191 0 6 0 8 = M6 at F6 ⊢
  have g6 : ∀ a i, a ≠ 1 → a ≠ 2 → a ≠ 3 → a ≠ 4 → a ≠ 5 → a ≠ 6 → am_gt M6 a i = am_gt M a i := by
    intro a i n0 n1 n2 n3 n4 n5
    subst hM6
    simp only [nm_gt_cp, nm_gt_st, n0, n1, n2, n3, n4, n5, false_and, if_false]
  have c6 : ∀ a i j, nm_ci 1 a i j → (j = 0 ∨ (29 ≤ j ∧ j < 85)) → am_gt M6 a i = S j := by
    intro a i j hc hj
    subst hM6
    rcases hc with ⟨rfl, ⟨rfl, rfl⟩ | ⟨rfl, rfl⟩ | ⟨rfl, rfl⟩ | ⟨rfl, rfl⟩ | ⟨rfl, rfl⟩ | ⟨rfl, rfl⟩ | ⟨rfl, rfl⟩⟩ | ⟨rfl, x, y, rfl⟩ | ⟨rfl, x, y, rfl⟩ | ⟨rfl, x, y, rfl⟩ | ⟨rfl, x, y, rfl⟩ | ⟨rfl, x, y, rfl⟩ | ⟨rfl, x, y, rfl⟩ | ⟨rfl, x, y, rfl⟩ | ⟨rfl, x, y, rfl⟩
    · simp only [nm_gt_cp, nm_gt_st, Int.reduceEq, false_and, and_self, if_false, if_true]; exact hS.1
    · omega
    · omega
    · omega
    · omega
    · omega
    · omega
    · simp only [nm_gt_cp, nm_gt_st, Int.reduceAdd, Int.reduceEq, Int.zero_add, x, y, true_and, and_true, false_and, and_self, if_false, if_true, Int.sub_zero, Int.add_zero]; exact nm_CS_at hS (nm_cA (by omega))
    · simp only [nm_gt_cp, nm_gt_st, Int.reduceAdd, Int.reduceEq, Int.zero_add, x, y, true_and, and_true, false_and, and_self, if_false, if_true, Int.sub_zero, Int.add_zero]; exact nm_CS_at hS (nm_cB (by omega))
    · simp only [nm_gt_cp, nm_gt_st, Int.reduceAdd, Int.reduceEq, Int.zero_add, x, y, true_and, and_true, false_and, and_self, if_false, if_true, Int.sub_zero, Int.add_zero]; exact nm_CS_at hS (nm_cC (by omega))
    · simp only [nm_gt_cp, nm_gt_st, Int.reduceAdd, Int.reduceEq, Int.zero_add, x, y, true_and, and_true, false_and, and_self, if_false, if_true, Int.sub_zero, Int.add_zero]; exact nm_CS_at hS (nm_cD (by omega))
    · simp only [nm_gt_cp, nm_gt_st, Int.reduceAdd, Int.reduceEq, Int.zero_add, x, y, true_and, and_true, false_and, and_self, if_false, if_true, Int.sub_zero, Int.add_zero]; exact nm_CS_at hS (nm_cE (by omega))
    · omega
    · omega
    · omega
  have F7 := nm_Fr_st (a := 1) (i := 6) (v := am_gt M6 186 6) F6 (by decide)
  have F8 := nm_Fr_cp (a := 192) (i := 0) (b := 7) (j := 0) (m := 8) F7 (fun k x y => nm_in_c (lo := 0) (hi := 8) (by decide) x (by omega))
  have F9 := nm_Fr_cp (a := 193) (i := 0) (b := 8) (j := 0) (m := 8) F8 (fun k x y => nm_in_c (lo := 0) (hi := 8) (by decide) x (by omega))
  have F10 := nm_Fr_cp (a := 194) (i := 0) (b := 9) (j := 0) (m := 8) F9 (fun k x y => nm_in_c (lo := 0) (hi := 8) (by decide) x (by omega))
  refine h_1_186_114_91 (lay F7) ⟨by omega, h_1_186_114_106 (lay F8) ⟨by omega, h_1_186_114_121 (lay F9) ⟨by omega, h_1_186_114_136 (lay F10) ?_⟩⟩⟩
  generalize hM10 : am_cp (am_cp (am_cp (am_st M6 1 6 (am_gt M6 186 6)) 192 0 7 0 8) 193 0 8 0 8) 194 0 9 0 8 = M10 at F10 ⊢
  have g10 : ∀ a i, (a < 1 ∨ 9 < a) → am_gt M10 a i = am_gt M a i := by
    intro a i n0
    have e0 : (a = 1) = False := eq_false (by omega)
    have e6 : (a = 7) = False := eq_false (by omega)
    have e7 : (a = 8) = False := eq_false (by omega)
    have e8 : (a = 9) = False := eq_false (by omega)
    subst hM10
    simp only [nm_gt_cp, nm_gt_st, e0, e6, e7, e8, false_and, if_false]
    exact g6 a i (by omega) (by omega) (by omega) (by omega) (by omega) (by omega)
  have c10 : ∀ a i j, nm_ci 1 a i j → (j = 0 ∨ j = 1 ∨ 29 ≤ j) → am_gt M10 a i = S j := by
    intro a i j hc hj
    by_cases hj2 : j = 0 ∨ (29 ≤ j ∧ j < 85)
    · have := c6 a i j hc hj2
      subst hM10
      rcases hc with ⟨rfl, ⟨rfl, rfl⟩ | ⟨rfl, rfl⟩ | ⟨rfl, rfl⟩ | ⟨rfl, rfl⟩ | ⟨rfl, rfl⟩ | ⟨rfl, rfl⟩ | ⟨rfl, rfl⟩⟩ | ⟨rfl, x, y, rfl⟩ | ⟨rfl, x, y, rfl⟩ | ⟨rfl, x, y, rfl⟩ | ⟨rfl, x, y, rfl⟩ | ⟨rfl, x, y, rfl⟩ | ⟨rfl, x, y, rfl⟩ | ⟨rfl, x, y, rfl⟩ | ⟨rfl, x, y, rfl⟩
      all_goals first
        | omega
        | (simp only [nm_gt_cp, nm_gt_st, Int.reduceAdd, Int.reduceEq, false_and, and_false, if_false] at this ⊢; exact this)
    · subst hM10
      rcases hc with ⟨rfl, ⟨rfl, rfl⟩ | ⟨rfl, rfl⟩ | ⟨rfl, rfl⟩ | ⟨rfl, rfl⟩ | ⟨rfl, rfl⟩ | ⟨rfl, rfl⟩ | ⟨rfl, rfl⟩⟩ | ⟨rfl, x, y, rfl⟩ | ⟨rfl, x, y, rfl⟩ | ⟨rfl, x, y, rfl⟩ | ⟨rfl, x, y, rfl⟩ | ⟨rfl, x, y, rfl⟩ | ⟨rfl, x, y, rfl⟩ | ⟨rfl, x, y, rfl⟩ | ⟨rfl, x, y, rfl⟩
      all_goals first
        | omega
        | (simp only [nm_gt_cp, nm_gt_st, Int.reduceEq, false_and, and_self, if_false, if_true]; rw [g6 _ _ (by decide) (by decide) (by decide) (by decide) (by decide) (by decide)]; exact hS.2.1)
        | (simp only [nm_gt_cp, nm_gt_st, Int.reduceAdd, Int.reduceEq, Int.zero_add, x, y, true_and, and_true, false_and, and_self, if_false, if_true, Int.sub_zero, Int.add_zero]; rw [g6 _ _ (by decide) (by decide) (by decide) (by decide) (by decide) (by decide)]; first | exact nm_CS_at hS (nm_cF1 (by omega)) | exact nm_CS_at hS (nm_cG (by omega)) | exact nm_CS_at hS (nm_cH (by omega)))
  have F11 := nm_Fr_st (a := 1) (i := 10) (v := am_gt M10 186 10) F10 (by decide)
  refine h_1_186_114_144 (lay F11) ?_
  have F12 := nm_Fr_st (a := 1) (i := 11) (v := am_gt (am_st M10 1 10 (am_gt M10 186 10)) 186 11) F11 (by decide)
  refine h_1_186_114_152 (lay F12) ?_
  have e11 : am_gt (am_st M10 1 10 (am_gt M10 186 10)) 186 11 = S 6 := by rw [nm_st_ne (by decide), g10 _ _ (by decide)]; exact nm_CS_at hS nm_c6
  have e10 : am_gt M10 186 10 = S 5 := by rw [g10 _ _ (by decide)]; exact nm_CS_at hS nm_c5
  have e12 : am_gt (am_st (am_st M10 1 10 (S 5)) 1 11 (S 6)) 186 12 = S 7 := by rw [nm_st_ne (by decide), nm_st_ne (by decide), g10 _ _ (by decide)]; exact nm_CS_at hS nm_c7
  have e13 : am_gt (am_st (am_st M10 1 10 (S 5)) 1 11 (S 6)) 186 13 = S 2 := by rw [nm_st_ne (by decide), nm_st_ne (by decide), g10 _ _ (by decide)]; exact nm_CS_at hS nm_c2
  rw [e11] at F12 ⊢
  rw [e10] at F12 ⊢
  rw [e12, e13]
  have F14 := nm_Fr_st (a := 1) (i := 13) (v := S 2) (nm_Fr_st (a := 1) (i := 12) (v := S 7) F12 (by decide)) (by decide)
  generalize hM14 : am_st (am_st (am_st (am_st M10 1 10 (S 5)) 1 11 (S 6)) 1 12 (S 7)) 1 13 (S 2) = M14 at F14 ⊢
  have g14 : ∀ a i, (a < 1 ∨ 9 < a) → am_gt M14 a i = am_gt M a i := by
    intro a i n0
    subst hM14
    rw [nm_st_ne (by omega), nm_st_ne (by omega), nm_st_ne (by omega), nm_st_ne (by omega)]
    exact g10 a i n0
  have c14 : ∀ a i j, nm_ci 1 a i j → j ≠ 3 → am_gt M14 a i = S j := by
    intro a i j hc hj
    subst hM14
    by_cases hj2 : j = 0 ∨ j = 1 ∨ 29 ≤ j
    · rw [nm_gt_st, if_neg (by unfold nm_ci at hc; omega), nm_gt_st, if_neg (by unfold nm_ci at hc; omega), nm_gt_st, if_neg (by unfold nm_ci at hc; omega), nm_gt_st, if_neg (by unfold nm_ci at hc; omega)]
      exact c10 a i j hc hj2
    · have hx : a = 1 ∧ ((i = 13 ∧ j = 2) ∨ (i = 10 ∧ j = 5) ∨ (i = 11 ∧ j = 6) ∨ (i = 12 ∧ j = 7)) := by unfold nm_ci at hc; omega
      obtain ⟨rfl, ⟨rfl, rfl⟩ | ⟨rfl, rfl⟩ | ⟨rfl, rfl⟩ | ⟨rfl, rfl⟩⟩ := hx <;> simp only [nm_gt_st, Int.reduceEq, and_false, and_self, if_false, if_true]
  have key : ∀ k : Nat, k ≤ 6 → ∀ M1, nm_Fr (nm_Sg 1 ++ [(10, 0, 6)]) M M1 → nm_Fr [(10, 0, 6)] M14 M1 → (∀ j, 0 ≤ j → j < (k : Int) → am_gt M1 10 j = am_gt M 195 j) → am_WP d am_c114 170 [(2, 1), (2, 186), (0, (k : Int))] [] M1 Q := by
    refine nm_dn ?_
    intro k hk ih M1 F F' a1
    have hL14 := lay F14
    have hL1 := nm_Lay_fr hL F (by decide +kernel)
    have hcg : ∀ a i, (a < 1 ∨ 10 < a) → a < 247 → am_gt M1 a i = am_gt M a i := by
      intro a i n0 n1
      rw [nm_gt_fr F' (by have := hL14.2.2.1; omega) (nm_in_no (by unfold nm_no; simp only [List.all_cons, List.all_nil, Bool.and_true, Bool.not_eq_true', decide_eq_false_iff_not]; omega))]
      exact g14 a i (by omega)
    refine h_1_186_114_170 hL1 ⟨fun h => ⟨by omega, ?_⟩, fun h => ?_⟩
    · have hk6 : k = 6 := by omega
      subst hk6
      have e15 : am_gt M1 186 15 = S 3 := by rw [hcg _ _ (by decide) (by decide)]; exact nm_CS_at hS nm_c3
      rw [e15]
      have F2 : nm_Fr (nm_Sg 1 ++ [(10, 0, 6)]) M (am_st M1 1 15 (S 3)) := nm_Fr_st F (by decide)
      have F2' : nm_Fr [(1, 15, 16)] M1 (am_st M1 1 15 (S 3)) := nm_Fr_st (nm_Fg_refl _ _) (by decide)
      have hL2 := nm_Lay_fr hL F2 (by decide +kernel)
      have hW2 := nm_CW_fr hW hL (by decide) F2 (by decide)
      have cS : nm_CS (am_st M1 1 15 (S 3)) 1 S := by
        refine nm_CS_of (fun a i j hc => ?_)
        by_cases hj : j = 3
        · have hx : a = 1 ∧ i = 15 := by unfold nm_ci at hc; omega
          obtain ⟨rfl, rfl⟩ := hx
          rw [nm_st_eq, hj]
        · have hx : ¬ (a = 1 ∧ i = 15) := by unfold nm_ci at hc; omega
          have hy : a < 247 ∧ a ≠ 10 := by unfold nm_ci at hc; omega
          rw [nm_gt_st, if_neg hx, nm_gt_fr F' (by have := hL14.2.2.1; omega) (nm_in_no (by unfold nm_no; simp only [List.all_cons, List.all_nil, Bool.and_true, Bool.not_eq_true', decide_eq_false_iff_not]; omega))]
          exact c14 a i j hc hj
      refine nmc_136 (by omega) hL2 (by decide) (by decide) (by decide) hW2 (fun M3 F3 hW3 => ?_)
      have hL3 := nm_Lay_fr hL2 F3 (by decide +kernel)
      refine h_1_186_114_213 hL3 (hQ M3 (nm_Fr_trans (nm_Fr_appl F2) (nm_Fr_appr F3)) (nm_CS_fr cS hL2 (by decide) F3 (by decide)) (fun j j0 j1 => ?_) hW3)
      rw [nm_gt_frn F3 hL2 (by decide) (by decide), nm_st_ne (by decide)]
      exact a1 j j0 (by omega)
    · have e9 : am_gt M1 195 (k : Int) = am_gt M 195 (k : Int) := hcg _ _ (by decide) (by decide)
      rw [e9, nm_wk (by omega)]
      refine ⟨by omega, by omega, ?_, ih (by omega) _ (nm_Fr_st F (nm_in_c (lo := 0) (hi := 6) (by decide) (by omega) (by omega))) (nm_Fr_st F' (nm_in_c (lo := 0) (hi := 6) (by decide) (by omega) (by omega))) (fun j j0 j1 => ?_)⟩
      · rcases hT (k : Int) (by omega) (by omega) with e | ⟨e1, e2, e3⟩
        · exact .inl e
        · exact .inr ((congrArg Prod.fst (F.2.2.2.1 _ e2)).trans e3)
      · rw [nm_gt_st]
        by_cases hj : j = (k : Int)
        · rw [if_pos ⟨rfl, hj⟩, hj]
        · rw [if_neg (fun c => hj c.2)]; exact a1 j j0 (by omega)
  exact key 0 (Nat.zero_le _) M14 (nm_Fr_appl F14) (nm_Fg_refl _ _) (fun j j0 j1 => absurd j1 (by omega))
theorem nmc_114_1_200 {d : Nat} {S : Int → Int} {W : nm_W} {M : am_M} {Q : List am_V → am_M → Prop} (hd : 2 ≤ d) (hL : nm_Lay M) (hS : nm_CS M 200 S) (hT : nm_TX M 200) (hW : nm_CW M 210 W) (hQ : ∀ M', nm_Fr (nm_Sg 1 ++ [(10, 0, 6)] ++ nm_Wg 11) M M' → nm_CS M' 1 S → (∀ k, 0 ≤ k → k < 6 → am_gt M' 10 k = am_gt M 209 k) → nm_CW M' 11 W → Q [] M') : am_CL d 114 [(2, 1), (2, 200)] M Q := by
  have lay : ∀ {M'}, nm_Fr (nm_Sg 1) M M' → nm_Lay M' := fun F => nm_Lay_fr hL F (by decide +kernel)
  have R := nm_Fg_refl (nm_Sg 1) M
  have F1 := nm_Fr_st (a := 1) (i := 0) (v := am_gt M 200 0) R (by decide)
  have F2 := nm_Fr_cp (a := 201) (i := 0) (b := 2) (j := 0) (m := 6) F1 (fun k x y => nm_in_c (lo := 0) (hi := 6) (by decide) x (by omega))
  have F3 := nm_Fr_cp (a := 202) (i := 0) (b := 3) (j := 0) (m := 30) F2 (fun k x y => nm_in_c (lo := 0) (hi := 30) (by decide) x (by omega))
  have F4 := nm_Fr_cp (a := 203) (i := 0) (b := 4) (j := 0) (m := 6) F3 (fun k x y => nm_in_c (lo := 0) (hi := 6) (by decide) x (by omega))
  have F5 := nm_Fr_cp (a := 204) (i := 0) (b := 5) (j := 0) (m := 6) F4 (fun k x y => nm_in_c (lo := 0) (hi := 6) (by decide) x (by omega))
  have F6 := nm_Fr_cp (a := 205) (i := 0) (b := 6) (j := 0) (m := 8) F5 (fun k x y => nm_in_c (lo := 0) (hi := 8) (by decide) x (by omega))
  refine h_1_200_114_0 hL (h_1_200_114_8 (lay F1) ⟨by omega, h_1_200_114_23 (lay F2) ⟨by omega, h_1_200_114_38 (lay F3) ⟨by omega, h_1_200_114_53 (lay F4) ⟨by omega, h_1_200_114_68 (lay F5) ⟨by omega, h_1_200_114_83 (lay F6) ?_⟩⟩⟩⟩⟩)
  generalize hM6 : am_cp (am_cp (am_cp (am_cp (am_cp (am_st M 1 0 (am_gt M 200 0)) 201 0 2 0 6) 202 0 3 0 30) 203 0 4 0 6) 204 0 5 0 6) 205 0 6 0 8 = M6 at F6 ⊢
  have g6 : ∀ a i, a ≠ 1 → a ≠ 2 → a ≠ 3 → a ≠ 4 → a ≠ 5 → a ≠ 6 → am_gt M6 a i = am_gt M a i := by
    intro a i n0 n1 n2 n3 n4 n5
    subst hM6
    simp only [nm_gt_cp, nm_gt_st, n0, n1, n2, n3, n4, n5, false_and, if_false]
  have c6 : ∀ a i j, nm_ci 1 a i j → (j = 0 ∨ (29 ≤ j ∧ j < 85)) → am_gt M6 a i = S j := by
    intro a i j hc hj
    subst hM6
    rcases hc with ⟨rfl, ⟨rfl, rfl⟩ | ⟨rfl, rfl⟩ | ⟨rfl, rfl⟩ | ⟨rfl, rfl⟩ | ⟨rfl, rfl⟩ | ⟨rfl, rfl⟩ | ⟨rfl, rfl⟩⟩ | ⟨rfl, x, y, rfl⟩ | ⟨rfl, x, y, rfl⟩ | ⟨rfl, x, y, rfl⟩ | ⟨rfl, x, y, rfl⟩ | ⟨rfl, x, y, rfl⟩ | ⟨rfl, x, y, rfl⟩ | ⟨rfl, x, y, rfl⟩ | ⟨rfl, x, y, rfl⟩
    · simp only [nm_gt_cp, nm_gt_st, Int.reduceEq, false_and, and_self, if_false, if_true]; exact hS.1
    · omega
    · omega
    · omega
    · omega
    · omega
    · omega
    · simp only [nm_gt_cp, nm_gt_st, Int.reduceAdd, Int.reduceEq, Int.zero_add, x, y, true_and, and_true, false_and, and_self, if_false, if_true, Int.sub_zero, Int.add_zero]; exact nm_CS_at hS (nm_cA (by omega))
    · simp only [nm_gt_cp, nm_gt_st, Int.reduceAdd, Int.reduceEq, Int.zero_add, x, y, true_and, and_true, false_and, and_self, if_false, if_true, Int.sub_zero, Int.add_zero]; exact nm_CS_at hS (nm_cB (by omega))
    · simp only [nm_gt_cp, nm_gt_st, Int.reduceAdd, Int.reduceEq, Int.zero_add, x, y, true_and, and_true, false_and, and_self, if_false, if_true, Int.sub_zero, Int.add_zero]; exact nm_CS_at hS (nm_cC (by omega))
    · simp only [nm_gt_cp, nm_gt_st, Int.reduceAdd, Int.reduceEq, Int.zero_add, x, y, true_and, and_true, false_and, and_self, if_false, if_true, Int.sub_zero, Int.add_zero]; exact nm_CS_at hS (nm_cD (by omega))
    · simp only [nm_gt_cp, nm_gt_st, Int.reduceAdd, Int.reduceEq, Int.zero_add, x, y, true_and, and_true, false_and, and_self, if_false, if_true, Int.sub_zero, Int.add_zero]; exact nm_CS_at hS (nm_cE (by omega))
    · omega
    · omega
    · omega
  have F7 := nm_Fr_st (a := 1) (i := 6) (v := am_gt M6 200 6) F6 (by decide)
  have F8 := nm_Fr_cp (a := 206) (i := 0) (b := 7) (j := 0) (m := 8) F7 (fun k x y => nm_in_c (lo := 0) (hi := 8) (by decide) x (by omega))
  have F9 := nm_Fr_cp (a := 207) (i := 0) (b := 8) (j := 0) (m := 8) F8 (fun k x y => nm_in_c (lo := 0) (hi := 8) (by decide) x (by omega))
  have F10 := nm_Fr_cp (a := 208) (i := 0) (b := 9) (j := 0) (m := 8) F9 (fun k x y => nm_in_c (lo := 0) (hi := 8) (by decide) x (by omega))
  refine h_1_200_114_91 (lay F7) ⟨by omega, h_1_200_114_106 (lay F8) ⟨by omega, h_1_200_114_121 (lay F9) ⟨by omega, h_1_200_114_136 (lay F10) ?_⟩⟩⟩
  generalize hM10 : am_cp (am_cp (am_cp (am_st M6 1 6 (am_gt M6 200 6)) 206 0 7 0 8) 207 0 8 0 8) 208 0 9 0 8 = M10 at F10 ⊢
  have g10 : ∀ a i, (a < 1 ∨ 9 < a) → am_gt M10 a i = am_gt M a i := by
    intro a i n0
    have e0 : (a = 1) = False := eq_false (by omega)
    have e6 : (a = 7) = False := eq_false (by omega)
    have e7 : (a = 8) = False := eq_false (by omega)
    have e8 : (a = 9) = False := eq_false (by omega)
    subst hM10
    simp only [nm_gt_cp, nm_gt_st, e0, e6, e7, e8, false_and, if_false]
    exact g6 a i (by omega) (by omega) (by omega) (by omega) (by omega) (by omega)
  have c10 : ∀ a i j, nm_ci 1 a i j → (j = 0 ∨ j = 1 ∨ 29 ≤ j) → am_gt M10 a i = S j := by
    intro a i j hc hj
    by_cases hj2 : j = 0 ∨ (29 ≤ j ∧ j < 85)
    · have := c6 a i j hc hj2
      subst hM10
      rcases hc with ⟨rfl, ⟨rfl, rfl⟩ | ⟨rfl, rfl⟩ | ⟨rfl, rfl⟩ | ⟨rfl, rfl⟩ | ⟨rfl, rfl⟩ | ⟨rfl, rfl⟩ | ⟨rfl, rfl⟩⟩ | ⟨rfl, x, y, rfl⟩ | ⟨rfl, x, y, rfl⟩ | ⟨rfl, x, y, rfl⟩ | ⟨rfl, x, y, rfl⟩ | ⟨rfl, x, y, rfl⟩ | ⟨rfl, x, y, rfl⟩ | ⟨rfl, x, y, rfl⟩ | ⟨rfl, x, y, rfl⟩
      all_goals first
        | omega
        | (simp only [nm_gt_cp, nm_gt_st, Int.reduceAdd, Int.reduceEq, false_and, and_false, if_false] at this ⊢; exact this)
    · subst hM10
      rcases hc with ⟨rfl, ⟨rfl, rfl⟩ | ⟨rfl, rfl⟩ | ⟨rfl, rfl⟩ | ⟨rfl, rfl⟩ | ⟨rfl, rfl⟩ | ⟨rfl, rfl⟩ | ⟨rfl, rfl⟩⟩ | ⟨rfl, x, y, rfl⟩ | ⟨rfl, x, y, rfl⟩ | ⟨rfl, x, y, rfl⟩ | ⟨rfl, x, y, rfl⟩ | ⟨rfl, x, y, rfl⟩ | ⟨rfl, x, y, rfl⟩ | ⟨rfl, x, y, rfl⟩ | ⟨rfl, x, y, rfl⟩
      all_goals first
        | omega
        | (simp only [nm_gt_cp, nm_gt_st, Int.reduceEq, false_and, and_self, if_false, if_true]; rw [g6 _ _ (by decide) (by decide) (by decide) (by decide) (by decide) (by decide)]; exact hS.2.1)
        | (simp only [nm_gt_cp, nm_gt_st, Int.reduceAdd, Int.reduceEq, Int.zero_add, x, y, true_and, and_true, false_and, and_self, if_false, if_true, Int.sub_zero, Int.add_zero]; rw [g6 _ _ (by decide) (by decide) (by decide) (by decide) (by decide) (by decide)]; first | exact nm_CS_at hS (nm_cF1 (by omega)) | exact nm_CS_at hS (nm_cG (by omega)) | exact nm_CS_at hS (nm_cH (by omega)))
  have F11 := nm_Fr_st (a := 1) (i := 10) (v := am_gt M10 200 10) F10 (by decide)
  refine h_1_200_114_144 (lay F11) ?_
  have F12 := nm_Fr_st (a := 1) (i := 11) (v := am_gt (am_st M10 1 10 (am_gt M10 200 10)) 200 11) F11 (by decide)
  refine h_1_200_114_152 (lay F12) ?_
  have e11 : am_gt (am_st M10 1 10 (am_gt M10 200 10)) 200 11 = S 6 := by rw [nm_st_ne (by decide), g10 _ _ (by decide)]; exact nm_CS_at hS nm_c6
  have e10 : am_gt M10 200 10 = S 5 := by rw [g10 _ _ (by decide)]; exact nm_CS_at hS nm_c5
  have e12 : am_gt (am_st (am_st M10 1 10 (S 5)) 1 11 (S 6)) 200 12 = S 7 := by rw [nm_st_ne (by decide), nm_st_ne (by decide), g10 _ _ (by decide)]; exact nm_CS_at hS nm_c7
  have e13 : am_gt (am_st (am_st M10 1 10 (S 5)) 1 11 (S 6)) 200 13 = S 2 := by rw [nm_st_ne (by decide), nm_st_ne (by decide), g10 _ _ (by decide)]; exact nm_CS_at hS nm_c2
  rw [e11] at F12 ⊢
  rw [e10] at F12 ⊢
  rw [e12, e13]
  have F14 := nm_Fr_st (a := 1) (i := 13) (v := S 2) (nm_Fr_st (a := 1) (i := 12) (v := S 7) F12 (by decide)) (by decide)
  generalize hM14 : am_st (am_st (am_st (am_st M10 1 10 (S 5)) 1 11 (S 6)) 1 12 (S 7)) 1 13 (S 2) = M14 at F14 ⊢
  have g14 : ∀ a i, (a < 1 ∨ 9 < a) → am_gt M14 a i = am_gt M a i := by
    intro a i n0
    subst hM14
    rw [nm_st_ne (by omega), nm_st_ne (by omega), nm_st_ne (by omega), nm_st_ne (by omega)]
    exact g10 a i n0
  have c14 : ∀ a i j, nm_ci 1 a i j → j ≠ 3 → am_gt M14 a i = S j := by
    intro a i j hc hj
    subst hM14
    by_cases hj2 : j = 0 ∨ j = 1 ∨ 29 ≤ j
    · rw [nm_gt_st, if_neg (by unfold nm_ci at hc; omega), nm_gt_st, if_neg (by unfold nm_ci at hc; omega), nm_gt_st, if_neg (by unfold nm_ci at hc; omega), nm_gt_st, if_neg (by unfold nm_ci at hc; omega)]
      exact c10 a i j hc hj2
    · have hx : a = 1 ∧ ((i = 13 ∧ j = 2) ∨ (i = 10 ∧ j = 5) ∨ (i = 11 ∧ j = 6) ∨ (i = 12 ∧ j = 7)) := by unfold nm_ci at hc; omega
      obtain ⟨rfl, ⟨rfl, rfl⟩ | ⟨rfl, rfl⟩ | ⟨rfl, rfl⟩ | ⟨rfl, rfl⟩⟩ := hx <;> simp only [nm_gt_st, Int.reduceEq, and_false, and_self, if_false, if_true]
  have key : ∀ k : Nat, k ≤ 6 → ∀ M1, nm_Fr (nm_Sg 1 ++ [(10, 0, 6)]) M M1 → nm_Fr [(10, 0, 6)] M14 M1 → (∀ j, 0 ≤ j → j < (k : Int) → am_gt M1 10 j = am_gt M 209 j) → am_WP d am_c114 170 [(2, 1), (2, 200), (0, (k : Int))] [] M1 Q := by
    refine nm_dn ?_
    intro k hk ih M1 F F' a1
    have hL14 := lay F14
    have hL1 := nm_Lay_fr hL F (by decide +kernel)
    have hcg : ∀ a i, (a < 1 ∨ 10 < a) → a < 247 → am_gt M1 a i = am_gt M a i := by
      intro a i n0 n1
      rw [nm_gt_fr F' (by have := hL14.2.2.1; omega) (nm_in_no (by unfold nm_no; simp only [List.all_cons, List.all_nil, Bool.and_true, Bool.not_eq_true', decide_eq_false_iff_not]; omega))]
      exact g14 a i (by omega)
    refine h_1_200_114_170 hL1 ⟨fun h => ⟨by omega, ?_⟩, fun h => ?_⟩
    · have hk6 : k = 6 := by omega
      subst hk6
      have e15 : am_gt M1 200 15 = S 3 := by rw [hcg _ _ (by decide) (by decide)]; exact nm_CS_at hS nm_c3
      rw [e15]
      have F2 : nm_Fr (nm_Sg 1 ++ [(10, 0, 6)]) M (am_st M1 1 15 (S 3)) := nm_Fr_st F (by decide)
      have F2' : nm_Fr [(1, 15, 16)] M1 (am_st M1 1 15 (S 3)) := nm_Fr_st (nm_Fg_refl _ _) (by decide)
      have hL2 := nm_Lay_fr hL F2 (by decide +kernel)
      have hW2 := nm_CW_fr hW hL (by decide) F2 (by decide)
      have cS : nm_CS (am_st M1 1 15 (S 3)) 1 S := by
        refine nm_CS_of (fun a i j hc => ?_)
        by_cases hj : j = 3
        · have hx : a = 1 ∧ i = 15 := by unfold nm_ci at hc; omega
          obtain ⟨rfl, rfl⟩ := hx
          rw [nm_st_eq, hj]
        · have hx : ¬ (a = 1 ∧ i = 15) := by unfold nm_ci at hc; omega
          have hy : a < 247 ∧ a ≠ 10 := by unfold nm_ci at hc; omega
          rw [nm_gt_st, if_neg hx, nm_gt_fr F' (by have := hL14.2.2.1; omega) (nm_in_no (by unfold nm_no; simp only [List.all_cons, List.all_nil, Bool.and_true, Bool.not_eq_true', decide_eq_false_iff_not]; omega))]
          exact c14 a i j hc hj
      refine nmc_136 (by omega) hL2 (by decide) (by decide) (by decide) hW2 (fun M3 F3 hW3 => ?_)
      have hL3 := nm_Lay_fr hL2 F3 (by decide +kernel)
      refine h_1_200_114_213 hL3 (hQ M3 (nm_Fr_trans (nm_Fr_appl F2) (nm_Fr_appr F3)) (nm_CS_fr cS hL2 (by decide) F3 (by decide)) (fun j j0 j1 => ?_) hW3)
      rw [nm_gt_frn F3 hL2 (by decide) (by decide), nm_st_ne (by decide)]
      exact a1 j j0 (by omega)
    · have e9 : am_gt M1 209 (k : Int) = am_gt M 209 (k : Int) := hcg _ _ (by decide) (by decide)
      rw [e9, nm_wk (by omega)]
      refine ⟨by omega, by omega, ?_, ih (by omega) _ (nm_Fr_st F (nm_in_c (lo := 0) (hi := 6) (by decide) (by omega) (by omega))) (nm_Fr_st F' (nm_in_c (lo := 0) (hi := 6) (by decide) (by omega) (by omega))) (fun j j0 j1 => ?_)⟩
      · rcases hT (k : Int) (by omega) (by omega) with e | ⟨e1, e2, e3⟩
        · exact .inl e
        · exact .inr ((congrArg Prod.fst (F.2.2.2.1 _ e2)).trans e3)
      · rw [nm_gt_st]
        by_cases hj : j = (k : Int)
        · rw [if_pos ⟨rfl, hj⟩, hj]
        · rw [if_neg (fun c => hj c.2)]; exact a1 j j0 (by omega)
  exact key 0 (Nat.zero_le _) M14 (nm_Fr_appl F14) (nm_Fg_refl _ _) (fun j j0 j1 => absurd j1 (by omega))
