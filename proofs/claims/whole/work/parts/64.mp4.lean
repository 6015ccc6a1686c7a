/-! THE REFERENCE'S WAY to the calls that reckon -/
theorem nm_mput1 {d : Nat} {v s L : Int} {P : Int → Int} {M0 M : am_M} {Q : List am_V → am_M → Prop} (hL : nm_Lay M0) (F : nm_Fr [(214, 13, 14), (223, 0, 400)] M0 M) (hP : nm_MP M P L) (h0 : 0 ≤ L) (h4 : L < 400) (hs : s = 0 ∨ s = 8 ∨ s = 16 ∨ s = 24) (hQ : ∀ M', nm_Fr [(214, 13, 14), (223, 0, 400)] M0 M' → nm_MP M' (nm_up P L (nm_by v s)) (L + 1) → am_WP d am_c170 3 [(2, 214), (0, v), (0, s - 8)] [] M' Q) : am_WP d am_c170 3 [(2, 214), (0, v), (0, s)] [] M Q := by
  have hL1 := nm_Lay_fr hL F (by decide +kernel)
  refine h_170_3 hL1 ⟨fun h => absurd h (by omega), fun _ => ?_⟩
  rw [hP.1, am_w_id (x := s + -8) (by omega) (by omega), am_w_id (x := L + 1) (by omega) (by omega), show s + -8 = s - 8 by omega]
  refine ⟨h0, h4, hQ _ (nm_Fr_st (nm_Fr_st F (nm_in_c (lo := 0) (hi := 400) (by decide) h0 h4)) (by decide)) ⟨nm_st_eq, fun i a b => ?_⟩⟩
  rw [nm_st_ne (by decide), nm_gt_st]
  by_cases hi : i = L
  · rw [if_pos ⟨rfl, hi⟩, hi, nm_up_eq]; rfl
  · rw [if_neg (fun c => hi c.2), nm_up_ne hi]; exact hP.2 i a (by omega)
theorem nmm_170 {d : Nat} {v L : Int} {P : Int → Int} {M0 M : am_M} {Q : List am_V → am_M → Prop} (hL : nm_Lay M0) (F : nm_Fr [(214, 13, 14), (223, 0, 400)] M0 M) (hP : nm_MP M P L) (h0 : 0 ≤ L) (h4 : L + 4 ≤ 400) (hQ : ∀ M', nm_Fr [(214, 13, 14), (223, 0, 400)] M0 M' → nm_MP M' (nm_p4 P L v) (L + 4) → Q [] M') : am_CL d 170 [(2, 214), (0, v)] M Q := by
  refine h_170_0 (nm_Lay_fr hL F (by decide +kernel)) (nm_mput1 hL F hP h0 (by omega) (.inr (.inr (.inr rfl))) (fun M1 F1 P1 => nm_mput1 hL F1 P1 (by omega) (by omega) (.inr (.inr (.inl rfl))) (fun M2 F2 P2 => nm_mput1 hL F2 P2 (by omega) (by omega) (.inr (.inl rfl)) (fun M3 F3 P3 => nm_mput1 hL F3 P3 (by omega) (by omega) (.inl rfl) (fun M4 F4 P4 => ?_)))))
  refine h_170_3 (nm_Lay_fr hL F4 (by decide +kernel)) ⟨fun _ => hQ M4 F4 ?_, fun h => absurd (by decide) h⟩
  rw [show L + 4 = L + 1 + 1 + 1 + 1 by omega]; exact P4
theorem nmq_9 {d : Nat} {a b c e f : Int} {X : nm_X} {M : am_M} {Q : List am_V → am_M → Prop} (hd : 2 ≤ d) (hok : nm_ok X) (hM : nm_M M X) (hQ : nm_KM (sp_9 X a b c e f).1 [(0, (sp_9 X a b c e f).2)] M Q) : am_CL d 171 [(2, 214), (0, a), (0, b), (0, c), (0, e), (0, f)] M Q := by
  have F0 := nm_m0F (M := M)
  have hM0 := nm_m0 hok hM
  have hM1 := hM0
  have hL := nm_M_L hM0
  obtain ⟨l0, l4, -⟩ := hok.2.2.2.1
  have e13 : am_gt M 214 13 = nx_L X := hM.2.2.2.1.1
  refine h_171_0 (nm_M_L hM) ?_
  rw [e13, am_w_id (by omega) (by omega)]
  unfold sp_9 at hQ
  generalize am_st M 214 0 0 = M0 at F0 hM0 hM1 hL ⊢
  obtain ⟨m1, m2, m3, m4, m5, m6⟩ := hM1
  have m1' := m1
  obtain ⟨a1, hS, hW, hO, hX, a6⟩ := m1
  refine ⟨fun h => ⟨by omega, ?_⟩, fun h => ?_⟩
  · rw [if_neg (by omega)] at hQ
    refine nmm_170 hL (nm_Fg_refl _ _) m4 l0 (by omega) (fun M1 F1 P1 => h_171_25 (nm_Lay_fr hL F1 (by decide +kernel)) ⟨by omega, nmm_170 hL F1 P1 (by omega) (by omega) (fun M2 F2 P2 => h_171_30 (nm_Lay_fr hL F2 (by decide +kernel)) ⟨by omega, nmm_170 hL F2 P2 (by omega) (by omega) (fun M3 F3 P3 => h_171_35 (nm_Lay_fr hL F3 (by decide +kernel)) ⟨by omega, nmm_170 hL F3 P3 (by omega) (by omega) (fun M4 F4 P4 => h_171_41 (nm_Lay_fr hL F4 (by decide +kernel)) ⟨by omega, nmm_170 hL F4 P4 (by omega) (by omega) (fun M5 F5 P5 => h_171_47 (nm_Lay_fr hL F5 (by decide +kernel)) ?_)⟩)⟩)⟩)⟩)
    have e20 : nx_L X + 4 + 4 + 4 + 4 + 4 = nx_L X + 20 := by omega
    rw [e20] at P5
    rw [P5.1]
    have C5 : nm_M M5 (ns_P X (nm_fd (nx_P X) (nx_L X) a b c e f) (nx_L X + 20)) := ⟨nm_MA_fr m1' F5 (by decide +kernel) (by decide +kernel) (by decide +kernel), fun k a b => ⟨(nm_gt_frn F5 hL (by decide) (by decide +kernel)).trans (m2 k a b).1, fun e => nm_MI_fr (nm_ok_I hok a b e) ((m2 k a b).2 e) hL F5 (by decide +kernel)⟩, nm_MU_fr m3 hL F5 (by decide +kernel) (by decide +kernel) (by decide +kernel), P5, nm_MR_fr m5 hL F5 (by decide +kernel) (by decide +kernel), nm_MY_fr m6 hL F5 (by decide +kernel)⟩
    exact hQ M5 (nm_Fr_trans F0 (nm_mF F5 (by decide +kernel))) C5
  · rw [if_pos (by omega)] at hQ; exact hQ M0 F0 hM0
/-- row -/
theorem nmq_11 {d : Nat} {X : nm_X} {M : am_M} {Q : List am_V → am_M → Prop} (hd : 3 ≤ d) (hok : nm_ok X) (hM : nm_M M X) (hQ : nm_KM (sp_11 X).1 [(0, (sp_11 X).2)] M Q) : am_CL d 168 [(2, 214)] M Q := by
  have F0 := nm_m0F (M := M)
  have hM0 := nm_m0 hok hM
  have hM1 := hM0
  have hL := nm_M_L hM0
  refine h_168_0 (nm_M_L hM) (h_168_5 hL ?_)
  generalize am_st M 214 0 0 = M0 at F0 hM0 hM1 hL ⊢
  obtain ⟨m1, m2, m3, m4, m5, m6⟩ := hM1
  have m1' := m1
  obtain ⟨a1, hS, hW, hO, hX, a6⟩ := m1
  obtain ⟨l0, l4, lP⟩ := hok.2.2.2.1
  unfold sp_11 at hQ
  rw [m4.1]
  refine ⟨fun h => ?_, fun h => ⟨by omega, ?_⟩⟩
  · rw [if_neg h] at hQ
    have hF : ∀ {M1}, nm_Fr [(214, 13, 14), (214, 11, 12), (216, 77, 85)] M0 M1 → nm_Lay M1 := fun F => nm_Lay_fr hL F (by decide +kernel)
    have key : ∀ k : Nat, k ≤ (nx_L X).toNat → ∀ M1, nm_Fr [(214, 13, 14), (214, 11, 12), (216, 77, 85)] M0 M1 → nm_MS M1 (nm_rw (nx_P X) (nx_S X) k).1 → am_gt M1 214 13 = 0 → am_gt M1 214 11 = (k : Int) - (nm_rw (nx_P X) (nx_S X) k).2 → am_WP d am_c168 35 [(2, 214), (0, nx_L X), (0, (nm_rw (nx_P X) (nx_S X) k).2), (0, (k : Int))] [] M1 Q := by
      refine nm_dn ?_
      intro k hk ih M1 F1 S1 z1 s1
      obtain ⟨o1, o2, o3, o4⟩ := nm_rw_ok (P := nx_P X) hO k
      have hL1 := hF F1
      refine h_168_35 hL1 ⟨fun h1 => ⟨by omega, ?_⟩, fun h1 => ⟨by omega, by omega, by omega, ?_⟩⟩
      · have hke : k = (nx_L X).toNat := by omega
        subst hke
        have W1 := nm_MW_kp2 hW (fun i a b => (nm_gt_frd (g := [(216, 4, 29)]) F1 hL (by decide) (by decide +kernel) (nm_in_c (lo := 4) (hi := 29) (by decide) a b)))
        obtain ⟨r0, r1, r2, r3, r4, r5⟩ := m5
        have s1' : am_gt M1 214 11 = nx_L X - (nm_rw (nx_P X) (nx_S X) (nx_L X).toNat).2 := by rw [s1]; omega
        have C1 : nm_M M1 (ns_R (ns_L (ns_S X (nm_rw (nx_P X) (nx_S X) (nx_L X).toNat).1) 0) (nm_up (nx_R X) 7 (nx_L X - (nm_rw (nx_P X) (nx_S X) (nx_L X).toNat).2))) := ⟨⟨hL1, S1, W1, o1, fun kq ka kb => nm_MT_kp2 (hX kq ka (by have kb1 : kq < (nm_rw (nx_P X) (nx_S X) (nx_L X).toNat).1 2 := kb; rw [o4 2 (by omega)] at kb1; exact kb1)) (by omega) (by have := hO.2.2.1.2; have kb1 : kq < (nm_rw (nx_P X) (nx_S X) (nx_L X).toNat).1 2 := kb; rw [o4 2 (by omega)] at kb1; omega) (fun i a b => nm_gt_frd (g := [(216, 110, 5510)]) F1 hL (by decide) (by decide +kernel) (nm_in_c (lo := 110) (hi := 5510) (by decide) a b)), by rw [nm_gt_frd (g := [(214, 20, 21)]) F1 hL (by decide) (by decide +kernel) (by decide +kernel)]; exact a6⟩, fun k a b => ⟨(nm_gt_frn F1 hL (by decide) (by decide +kernel)).trans (m2 k a b).1, fun e => nm_MI_fr (nm_ok_I hok a b e) ((m2 k a b).2 e) hL F1 (by decide +kernel)⟩, nm_MU_S (nm_MU_fr m3 hL F1 (by decide +kernel) (by decide +kernel) (by decide +kernel)) (fun i a b => o4 i (by omega)), ⟨z1, fun i a b => absurd (show i < 0 from b) (by omega)⟩, ⟨by rw [nm_gt_frd (g := [(214, 1, 2)]) F1 hL (by decide) (by decide +kernel) (by decide +kernel)]; exact r0, fun j a b c => by rw [nm_gt_frn F1 hL (by decide) (by decide +kernel)]; show _ = nm_up (nx_R X) 7 (nx_L X - (nm_rw (nx_P X) (nx_S X) (nx_L X).toNat).2) j; rw [nm_up_ne (by omega)]; exact r1 j a b c, by rw [s1']; show _ = nm_up (nx_R X) 7 (nx_L X - (nm_rw (nx_P X) (nx_S X) (nx_L X).toNat).2) 7; rw [nm_up_eq], by rw [nm_gt_frd (g := [(214, 18, 19)]) F1 hL (by decide) (by decide +kernel) (by decide +kernel)]; exact r3, by rw [nm_gt_frd (g := [(214, 54, 55)]) F1 hL (by decide) (by decide +kernel) (by decide +kernel)]; exact r4, by rw [nm_gt_frd (g := [(214, 58, 59)]) F1 hL (by decide) (by decide +kernel) (by decide +kernel)]; exact r5⟩, (show nm_MY M1 (nm_up (nx_R X) 7 (nx_L X - (nm_rw (nx_P X) (nx_S X) (nx_L X).toNat).2) 10) (nx_Y X) by rw [nm_up_ne (by decide)]; exact nm_MY_fr m6 hL F1 (by decide +kernel))⟩
        refine nmm_145 (R := nm_up (nx_R X) 7 (nx_L X - (nm_rw (nx_P X) (nx_S X) (nx_L X).toNat).2)) (.inl o2) hL1 C1.2.2.2.2.1 (fun M5 F5 r5 => ?_)
        have C5 := nm_M_tell (X0 := X) (X := ns_R (ns_L (ns_S X (nm_rw (nx_P X) (nx_S X) (nx_L X).toNat).1) 0) (nm_up (nx_R X) 7 (nx_L X - (nm_rw (nx_P X) (nx_S X) (nx_L X).toNat).2))) hok rfl rfl (.inl o2) C1 F5 r5
        rw [nx_tl_fn o2] at C5
        exact h_168_115 (nm_M_L C5) (hQ M5 (nm_Fr_trans F0 (nm_Fr_trans (nm_mF F1 (by decide +kernel)) (nm_mF F5 (by decide +kernel)))) C5)
      · have e223 : am_gt M1 223 (k : Int) = nx_P X (k : Int) := by rw [nm_gt_frn F1 hL (by decide) (by decide +kernel)]; exact m4.2 (k : Int) (by omega) (by omega)
        rw [e223]
        have no : ¬ ((0 ≤ nx_P X (k : Int) ∧ nx_P X (k : Int) < 8) ∧ (nm_rw (nx_P X) (nx_S X) k).1 (77 + nx_P X (k : Int)) < 3) → am_WP d am_c168 35 [(2, 214), (0, nx_L X), (0, (nm_rw (nx_P X) (nx_S X) k).2), (0, am_w ((k : Int) + 1))] [] (am_st M1 214 11 (am_w (am_gt M1 214 11 + 1))) Q := by
          intro hn
          rw [nm_wk (by omega), s1, am_w_id (by omega) (by omega)]
          have := ih (by omega) (am_st M1 214 11 ((k : Int) - (nm_rw (nx_P X) (nx_S X) k).2 + 1)) (nm_Fr_st F1 (by decide))
          rw [nm_rw_n hn] at this
          exact this (fun i hi => by rw [nm_st_ne (by decide)]; exact S1 i hi) (by rw [nm_st_nj (by decide)]; exact z1) (by rw [nm_st_eq]; omega)
        refine nmm_155 (by omega) hL1 (fun a0 a1 => ?_) (fun a0 => h_168_49 hL1 ⟨fun _ => no (by omega), fun h => absurd rfl h⟩)
        refine h_168_49 hL1 ⟨fun h => absurd h (by decide), fun _ => ?_⟩
        rw [e223, am_w_id (x := 77 + nx_P X (k : Int)) (by omega) (by omega), S1 (77 + nx_P X (k : Int)) (by unfold nm_si; omega)]
        refine ⟨by omega, by omega, by omega, by omega, fun h3 => no (by omega), fun h3 => ?_⟩
        have h77 := o1.2.2.2.2.2.2.2.2.2.2.2.1 (nx_P X (k : Int)) a0 a1
        rw [nm_wk (by omega), am_w_id (x := (nm_rw (nx_P X) (nx_S X) k).2 + 1) (by omega) (by omega), am_w_id (x := _ + 1) (by omega) (by omega)]
        have := ih (by omega) (am_st M1 216 (77 + nx_P X (k : Int)) ((nm_rw (nx_P X) (nx_S X) k).1 (77 + nx_P X (k : Int)) + 1)) (nm_Fr_st F1 (nm_in_c (lo := 77) (hi := 85) (by decide) (by omega) (by omega)))
        rw [nm_rw_s (by omega)] at this
        exact this (nm_MS_up S1) (by rw [nm_st_ne (by decide)]; exact z1) (by rw [nm_st_ne (by decide), s1]; simp only; omega)
    refine key 0 (Nat.zero_le _) _ (nm_Fr_st (nm_Fr_st (nm_Fg_refl _ _) (by decide)) (by decide)) (fun i hi => by rw [nm_st_ne (by decide), nm_st_ne (by decide)]; exact hS i hi) (by rw [nm_st_nj (by decide), nm_st_eq]) (by rw [nm_st_eq]; rfl)
  · rw [if_pos (by omega)] at hQ
    have F1 : nm_Fr [(214, 13, 14)] M0 (am_st M0 214 13 0) := nm_Fr_st (nm_Fg_refl _ _) (by decide)
    have C1 : nm_M (am_st M0 214 13 0) X := ⟨nm_MA_fr m1' F1 (by decide +kernel) (by decide +kernel) (by decide +kernel), fun k a b => ⟨(nm_gt_frn F1 hL (by decide) (by decide +kernel)).trans (m2 k a b).1, fun e => nm_MI_fr (nm_ok_I hok a b e) ((m2 k a b).2 e) hL F1 (by decide +kernel)⟩, nm_MU_fr m3 hL F1 (by decide +kernel) (by decide +kernel) (by decide +kernel), ⟨by rw [nm_st_eq]; omega, fun i a b => (nm_st_ne (by decide)).trans (m4.2 i a b)⟩, nm_MR_fr m5 hL F1 (by decide +kernel) (by decide +kernel), nm_MY_fr m6 hL F1 (by decide +kernel)⟩
    exact nmq_ref (k := 168) hok (by decide) (nm_Fr_trans F0 (nm_mF F1 (by decide +kernel))) C1 (fun M' L q => h_168_25 L q) hQ
/-- makes -/
theorem nmq_23 {d : Nat} {h : Int} {X : nm_X} {M : am_M} {Q : List am_V → am_M → Prop} (hd : 9 ≤ d) (hok : nm_ok X) (hM : nm_M M X) (hQ : nm_KM (sp_23 X h).1 [(0, (sp_23 X h).2)] M Q) : am_CL d 226 [(2, 214), (0, h)] M Q := by
  have F0 := nm_m0F (M := M)
  have hM0 := nm_m0 hok hM
  have hM1 := hM0
  have hL := nm_M_L hM0
  refine h_226_0 (nm_M_L hM) ⟨by omega, ?_⟩
  generalize am_st M 214 0 0 = M0 at F0 hM0 hM1 hL ⊢
  obtain ⟨m1, m2, m3, m4, m5, m6⟩ := hM1
  have m1' := m1
  obtain ⟨a1, hS, hW, hO, hX, a6⟩ := m1
  have oW : nm_okW (nx_S X 0) (nx_W X) := hok.1.2.2.1
  have q := hQ M0 F0 hM0
  unfold sp_23 at hQ q
  simp only at hQ q
  refine nmm_156 (by omega) hL (fun a0 a1 => ?_) (fun a0 => ?_)
  · rw [if_pos ⟨a0, a1⟩] at hQ
    refine h_226_9 hL ⟨fun _ => ?_, fun h => absurd h (by decide)⟩
    have key : ∀ p : Nat, p ≤ min (nx_W X).2.1.length h.toNat → ∀ M1, nm_Fr nm_tg M0 M1 → am_WP d am_c226 18 [(2, 214), (0, h), (0, nm_mkb (nx_S X) (nx_W X) (nm_lwf (nx_S X) (nx_D X)) h p), (0, (p : Int))] [] M1 Q := by
      refine nm_dn ?_
      intro p hp ih M1 F1
      have C1 := nm_M_tg hok hM0 F1
      obtain ⟨hL1, hS1, hW1, -⟩ := C1.1
      have l6' := hW1.2.2.1
      refine h_226_18 hL1 ?_
      rw [hW1.2.1]
      refine ⟨fun h1 => ?_, fun h1 => ⟨fun h2 => ?_, fun h2 => ?_⟩⟩
      · have hpe : p = min (nx_W X).2.1.length h.toNat := by omega
        rw [hpe]; exact hQ M1 (nm_Fr_trans F0 (nm_mF F1 (by decide +kernel))) C1
      · have hpe : p = min (nx_W X).2.1.length h.toNat := by omega
        rw [hpe]; exact hQ M1 (nm_Fr_trans F0 (nm_mF F1 (by decide +kernel))) C1
      · have hpl : p < (nx_W X).2.1.length := by omega
        have hmm := oW.2.2.2.1 _ (nm_getD_mem hpl)
        rw [am_w_id (x := 9 + (p : Int)) (by omega) (by omega), hW1.2.2.2.1 p hpl]
        refine ⟨by omega, by omega, by omega, nm_m208 (by omega) C1.1 oW hmm.1 hmm.2 (by omega) (by omega) (fun M2 F2 => h_226_51 (nm_Lay_fr hL1 F2 (by decide +kernel)) ?_)⟩
        rw [if_pos (by omega), nm_wk (by omega)]
        exact ih (by omega) M2 (nm_Fr_trans F1 F2)
    exact key 0 (Nat.zero_le _) M0 (nm_Fg_refl _ _)
  · rw [if_neg (by omega)] at q
    exact h_226_9 hL ⟨fun h => absurd rfl h, fun _ => q⟩
/-- the reference at work on paper: the works are others, and are brought again -/
theorem nm_M_W {M M' : am_M} {X : nm_X} (hok : nm_ok X) (hM : nm_M M X) {f : nm_Rg} (F : nm_Fr f M M') (hA : nm_MA M' (nx_S X) (nx_W X) (nx_D X)) (h1 : nm_no f 217 = true) (h2 : nm_no f 218 = true) (h3 : nm_dj f [(214, 8, 9)] = true) (h4 : nm_dj f [(219, 0, 400)] = true) (h5 : nm_no f 220 = true) (h6 : nm_dj f [(214, 13, 14)] = true) (h7 : nm_no f 223 = true) (h8 : nm_dj f nm_Mg2 = true) (h9 : nm_no f 215 = true) (h10 : nm_no f 246 = true) : nm_M M' X := by
  have hL := nm_M_L hM
  obtain ⟨m1, m2, m3, m4, m5, m6⟩ := hM
  exact ⟨hA, fun k a b => ⟨(nm_gt_frn F hL (by decide) h2).trans (m2 k a b).1, fun e => nm_MI_fr (nm_ok_I hok a b e) ((m2 k a b).2 e) hL F h1⟩, nm_MU_fr m3 hL F h3 h4 h5, nm_MP_fr m4 hL F h6 h7, nm_MR_fr m5 hL F h8 h9, nm_MY_fr m6 hL F h10⟩
abbrev nm_ppM : nm_Rg := [(219, 400, 425), (216, 4, 29)] ++ nm_pgM
theorem nm_or0 {a : Int} (h : am_i32 a) : am_or a 0 = a := by
  unfold am_or
  rw [show Int32.ofInt 0 = 0 from rfl, Int32.or_zero]
  exact Int32.toInt_ofInt_of_le h.1 (by have := h.2; omega)
theorem nm_or_i32 (a b : Int) : am_i32 (am_or a b) := by
  unfold am_or am_i32
  exact ⟨Int32.le_toInt _, Int.le_of_lt_add_one (Int32.toInt_lt _)⟩
theorem nm_eb_i32 (s : Int → Int) : ∀ k : Nat, am_i32 (nm_eb s k)
  | 0 => ⟨show (-2147483648 : Int) ≤ 0 by decide, show (0 : Int) ≤ 2147483647 by decide⟩
  | k + 1 => by
    unfold nm_eb
    split
    · exact nm_or_i32 _ _
    · exact nm_eb_i32 s k
theorem nmq_32 {d : Nat} {n : Int} {X : nm_X} {M : am_M} {Q : List am_V → am_M → Prop} (hd : 10 ≤ d) (hok : nm_ok X) (hM : nm_M M X) (hQ : nm_KM (sp_32 X n).1 [(0, (sp_32 X n).2)] M Q) : am_CL d 242 [(2, 214), (0, n)] M Q := by
  have F0 := nm_m0F (M := M)
  have hM0 := nm_m0 hok hM
  have hM1 := hM0
  have hL := nm_M_L hM0
  refine h_242_0 (nm_M_L hM) ⟨by omega, ?_⟩
  generalize am_st M 214 0 0 = M0 at F0 hM0 hM1 hL ⊢
  obtain ⟨m1, m2, m3, m4, m5, m6⟩ := hM1
  have m1' := m1
  obtain ⟨a1, hS, hW, hO, hX, a6⟩ := m1
  have oW : nm_okW (nx_S X 0) (nx_W X) := hok.1.2.2.1
  have hn9 : (nx_W X).1 ≤ 999 := hok.1.2.2.2
  have o0 := hO.1
  have q := hQ M0 F0 hM0
  unfold sp_32 at hQ q
  simp only at hQ q
  refine nmm_142 hL (fun a0 a1 => ?_) (fun a0 => ?_)
  · rw [if_pos ⟨a0, a1⟩] at hQ
    refine h_242_14 hL ⟨fun _ => ⟨by omega, nmm_148s (k := 16) m1' (by decide) (by decide) (fun M1 F1 sn1 => ?_)⟩, fun h => absurd h (by decide)⟩
    have F1' : nm_Fr nm_ppM M0 M1 := nm_Fr_sub F1 (by decide +kernel)
    have hA1 := nm_MA_fr m1' F1 (by decide +kernel) (by decide +kernel) (by decide +kernel)
    refine h_242_25 hA1.1 ?_
    have key : ∀ k : Nat, k ≤ n.toNat → ∀ M2, nm_Fr nm_ppM M0 M2 → nm_MA M2 (nx_S X) (nm_itw (nx_S X) (nm_lwf (nx_S X) (nx_D X)) k (nx_W X)) (nx_D X) → nm_Sn M2 16 (nx_S X) (nx_W X) → am_WP d am_c242 27 [(2, 214), (0, n), (0, (k : Int)), (9, 0)] [] M2 Q := by
      refine nm_dn ?_
      intro k hk ih M2 F2 hA2 sn2
      obtain ⟨ok1, -⟩ := nm_itw_ok (S := nx_S X) (T := nm_lwf (nx_S X) (nx_D X)) oW hn9 k (by omega)
      refine h_242_27 hA2.1 ⟨fun h2 => ?_, fun h2 => ⟨by omega, nmm_222 (by omega) hA2 ok1 (fun M3 F3 W3 => ?_)⟩⟩
      · have hke : k = n.toNat := by omega
        subst hke
        have k2 : ∀ m : Nat, m ≤ (nx_S X 0).toNat → am_WP d am_c242 46 [(2, 214), (0, n), (0, nm_eb (nm_itw (nx_S X) (nm_lwf (nx_S X) (nx_D X)) n.toNat (nx_W X)).2.2.1 m), (0, (m : Int))] [] M2 Q := by
          refine nm_dn ?_
          intro m hm ihm
          refine h_242_46 hA2.1 ?_
          rw [hA2.2.1 0 (by unfold nm_si; omega), nm_wk (by omega)]
          refine ⟨fun h3 => ⟨by omega, nmm_149s (k := 16) hA2 sn2 (by decide) (by decide) (fun M3 F3 hA3 => h_242_90 hA3.1 ?_)⟩, fun h3 => ?_⟩
          · have hme : m = (nx_S X 0).toNat := by omega
            have F03 : nm_Fr nm_ppM M0 M3 := nm_Fr_trans F2 (nm_Fr_sub F3 (by decide +kernel))
            rw [hme]; exact hQ M3 (nm_Fr_trans F0 (nm_mF F03 (by decide +kernel))) (nm_M_W hok hM0 F03 hA3 (by decide +kernel) (by decide +kernel) (by decide +kernel) (by decide +kernel) (by decide +kernel) (by decide +kernel) (by decide +kernel) (by decide +kernel) (by decide +kernel) (by decide +kernel))
          · have := ihm (by omega)
            unfold nm_eb at this
            rw [am_w_id (x := 15 + (m : Int)) (by omega) (by omega), hA2.2.2.1.2.2.2.2.1 (m : Int) (by omega) (by omega), nm_or0 (nm_eb_i32 _ _)]
            exact ⟨by omega, by omega, fun hz => by rw [if_neg hz] at this; exact this, fun hz => by rw [if_pos (by omega)] at this; exact this⟩
        exact k2 0 (Nat.zero_le _)
      · have hA3 := nm_MA_W hA2 F3 (by decide +kernel) (by decide +kernel) (by decide +kernel) W3
        refine h_242_36 hA3.1 ?_
        rw [nm_wk (by omega)]
        exact ih (by omega) M3 (nm_Fr_trans F2 (nm_Fr_sub F3 (by decide +kernel))) hA3 (nm_Sn_16 sn2 hA2.1 F3 (by decide +kernel))
    exact key 0 (Nat.zero_le _) M1 F1' hA1 sn1
  · rw [if_neg (by omega)] at q
    exact h_242_14 hL ⟨fun h => absurd rfl h, fun _ => q⟩
/-- till -/
theorem nmm_243 {d : Nat} {S : Int → Int} {W : nm_W} {M : am_M} {Q : List am_V → am_M → Prop} (hL : nm_Lay M) (hS : nm_MS M S) (hW : nm_MW M W) (h1 : nm_hc S W 8 = true → Q [(0, 1)] M) (h0 : nm_hc S W 8 = false → Q [(0, 0)] M) : am_CL d 243 [(2, 214)] M Q := by
  refine h_243_0 hL ?_
  have key : ∀ k : Nat, k ≤ 8 → am_WP d am_c243 4 [(2, 214), (0, if nm_hc S W k then 1 else 0), (0, (k : Int))] [] M Q := by
    refine nm_dn ?_
    intro k hk ih
    refine h_243_4 hL ?_
    rw [am_w_id (x := 21 + (k : Int)) (by omega) (by omega), am_w_id (x := 77 + (k : Int)) (by omega) (by omega), nm_wk (by omega)]
    refine ⟨fun h => ?_, fun h => ?_⟩
    · have hk8 : k = 8 := by omega
      subst hk8
      cases hc : nm_hc S W 8
      · exact ⟨.inl rfl, h0 hc⟩
      · exact ⟨.inr rfl, h1 hc⟩
    · have := ih (by omega)
      rw [hW.2.2.2.2.2 (k : Int) (by omega) (by omega), hS (77 + (k : Int)) (by unfold nm_si; omega)]
      have e : nm_hc S W (k + 1) = (nm_hc S W k && decide (S (77 + (k : Int)) ≤ W.2.2.2 (k : Int))) := rfl
      rw [e] at this
      cases hc : nm_hc S W k
      · rw [hc, Bool.false_and] at this
        exact ⟨fun _ => this, fun h => absurd rfl h⟩
      · rw [hc, Bool.true_and] at this
        refine ⟨fun h => absurd h (by decide), fun _ => ⟨by omega, by omega, by omega, by omega, fun hlt => ?_, fun hlt => ?_⟩⟩
        · rw [decide_eq_false (by omega)] at this; exact this
        · rw [decide_eq_true (by omega)] at this; exact this
  exact key 0 (Nat.zero_le _)
theorem nmq_33 {d : Nat} {X : nm_X} {M : am_M} {Q : List am_V → am_M → Prop} (hd : 11 ≤ d) (hok : nm_ok X) (hM : nm_M M X) (hQ : nm_KM (sp_33 X).1 [(0, (sp_33 X).2)] M Q) : am_CL d 244 [(2, 214)] M Q := by
  have F0 := nm_m0F (M := M)
  have hM0 := nm_m0 hok hM
  have hM1 := hM0
  have hL := nm_M_L hM0
  refine h_244_0 (nm_M_L hM) ⟨by omega, ?_⟩
  generalize am_st M 214 0 0 = M0 at F0 hM0 hM1 hL ⊢
  obtain ⟨m1, m2, m3, m4, m5, m6⟩ := hM1
  have m1' := m1
  obtain ⟨a1, hS, hW, hO, hX, a6⟩ := m1
  have oW : nm_okW (nx_S X 0) (nx_W X) := hok.1.2.2.1
  have hn9 : (nx_W X).1 ≤ 999 := hok.1.2.2.2
  unfold sp_33 at hQ
  refine nmm_148s (k := 16) m1' (by decide) (by decide) (fun M1 F1 sn1 => ?_)
  have F1' : nm_Fr nm_ppM M0 M1 := nm_Fr_sub F1 (by decide +kernel)
  have hA1 := nm_MA_fr m1' F1 (by decide +kernel) (by decide +kernel) (by decide +kernel)
  refine h_244_11 hA1.1 ?_
  have key : ∀ (f : Nat) (n : Int) (W : nm_W) (M2 : am_M), n + (f : Int) = 31 → 0 ≤ n → nm_Fr nm_ppM M0 M2 → nm_MA M2 (nx_S X) W (nx_D X) → nm_Sn M2 16 (nx_S X) (nx_W X) → nm_okW (nx_S X 0) W → W.1 ≤ 999 + n → nm_till (nx_S X) (nm_lwf (nx_S X) (nx_D X)) f n W = nm_till (nx_S X) (nm_lwf (nx_S X) (nx_D X)) 31 0 (nx_W X) → am_WP d am_c244 13 [(2, 214), (0, n)] [] M2 Q := by
    intro f
    induction f with
    | zero =>
      intro n W M2 hn h0 F2 hA2 sn2 ok2 hN e
      refine h_244_13 hA2.1 ⟨fun _ => ⟨by omega, nmm_149s (k := 16) hA2 sn2 (by decide) (by decide) (fun M3 F3 hA3 => h_244_43 hA3.1 ⟨fun h => absurd h (by omega), fun _ => ?_⟩)⟩, fun h => absurd (show 31 ≤ n by omega) h⟩
      have F03 : nm_Fr nm_ppM M0 M3 := nm_Fr_trans F2 (nm_Fr_sub F3 (by decide +kernel))
      have := hQ M3 (nm_Fr_trans F0 (nm_mF F03 (by decide +kernel))) (nm_M_W hok hM0 F03 hA3 (by decide +kernel) (by decide +kernel) (by decide +kernel) (by decide +kernel) (by decide +kernel) (by decide +kernel) (by decide +kernel) (by decide +kernel) (by decide +kernel) (by decide +kernel))
      rw [← e] at this
      exact this
    | succ f ih =>
      intro n W M2 hn h0 F2 hA2 sn2 ok2 hN e
      refine h_244_13 hA2.1 ⟨fun h => absurd h (by omega), fun _ => ⟨by omega, nmm_243 hA2.1 hA2.2.1 hA2.2.2.1 (fun hc => ?_) (fun hc => ?_)⟩⟩
      · refine h_244_23 hA2.1 ⟨fun _ => ⟨by omega, nmm_149s (k := 16) hA2 sn2 (by decide) (by decide) (fun M3 F3 hA3 => h_244_43 hA3.1 ⟨fun _ => ?_, fun h => absurd (show n ≤ 30 by omega) h⟩)⟩, fun h => absurd h (by decide)⟩
        have F03 : nm_Fr nm_ppM M0 M3 := nm_Fr_trans F2 (nm_Fr_sub F3 (by decide +kernel))
        have := hQ M3 (nm_Fr_trans F0 (nm_mF F03 (by decide +kernel))) (nm_M_W hok hM0 F03 hA3 (by decide +kernel) (by decide +kernel) (by decide +kernel) (by decide +kernel) (by decide +kernel) (by decide +kernel) (by decide +kernel) (by decide +kernel) (by decide +kernel) (by decide +kernel))
        rw [← e] at this
        unfold nm_till at this; rw [hc] at this
        exact this
      · refine h_244_23 hA2.1 ⟨fun h => absurd rfl h, fun _ => ⟨by omega, nmm_223 (by omega) hA2 ok2 (fun M3 F3 W3 => ?_)⟩⟩
        have hA3 := nm_MA_W hA2 F3 (by decide +kernel) (by decide +kernel) (by decide +kernel) W3
        refine h_244_30 hA3.1 ?_
        rw [am_w_id (by omega) (by omega)]
        refine ih (n + 1) (nm_pass (nx_S X) (nm_lwf (nx_S X) (nx_D X)) W) M3 (by omega) (by omega) (nm_Fr_trans F2 (nm_Fr_appr F3)) hA3 (nm_Sn_16 sn2 hA2.1 F3 (by decide +kernel)) (nm_okW_pass ok2 (by omega)) (by show W.1 + 1 ≤ _; omega) ?_
        rw [← e]
        show _ = if nm_hc (nx_S X) W 8 then _ else _
        rw [hc]; rfl
  exact key 31 0 (nx_W X) M1 (by decide) (by decide) F1' hA1 sn1 oW (by omega) rfl
/-- lasts -/
theorem nmq_35 {d : Nat} {m n : Int} {X : nm_X} {M : am_M} {Q : List am_V → am_M → Prop} (hd : 3 ≤ d) (hok : nm_ok X) (hM : nm_M M X) (hQ : nm_KM (sp_35 X m n).1 [(1, (sp_35 X m n).2)] M Q) : am_CL d 247 [(2, 214), (0, m), (0, n)] M Q := by
  have F0 := nm_m0F (M := M)
  have hM0 := nm_m0 hok hM
  have hM1 := hM0
  have hL := nm_M_L hM0
  refine h_247_0 (nm_M_L hM) ⟨by omega, ?_⟩
  generalize am_st M 214 0 0 = M0 at F0 hM0 hM1 hL ⊢
  obtain ⟨m1, m2, m3, m4, m5, m6⟩ := hM1
  have m1' := m1
  obtain ⟨a1, hS, hW, hO, hX, a6⟩ := m1
  have oW : nm_okW (nx_S X 0) (nx_W X) := hok.1.2.2.1
  have o0 := hO.1
  have q := hQ M0 F0 hM0
  unfold sp_35 at hQ q
  simp only at hQ q
  refine nmm_154 (by omega) hL hS hO (fun a0 a1 => ?_) (fun a0 => ?_)
  · refine h_247_10 hL ⟨fun h => absurd h (by decide), fun _ => ⟨by omega, nmm_142 hL (fun b0 b1 => ?_) (fun b0 => ?_)⟩⟩
    · rw [if_pos (by omega)] at hQ
      have bs := oW.2.2.2.2.1 m a0 (by omega)
      have lay : ∀ {M1}, nm_Fr [(243, 0, 31)] M0 M1 → nm_Lay M1 := fun F => nm_Lay_fr hL F (by decide +kernel)
      have sums : ∀ (M2 : am_M) (c : Int → Int), nm_Fr [(243, 0, 31)] M0 M2 → (∀ v, 0 ≤ v → v < 31 → am_gt M2 243 v = c v) → nm_ls c 30 = nm_ls (nm_fn (nx_S X 5) (nm_cc0 ((nx_W X).2.2.1 m)) n.toNat) 30 → ∀ k : Nat, k ≤ 30 → am_WP d am_c247 162 [(2, 214), (0, m), (0, n), (0, nx_S X 5), (1, nm_ls c k), (9, 0), (0, (k : Int) + 1), (9, 0)] [] M2 Q := by
        intro M2 c F2 e2 ec
        refine nm_dn ?_
        intro k hk ih
        refine h_247_162 (lay F2) ⟨fun h => ?_, fun h => ⟨by omega, by omega, ?_⟩⟩
        · rw [show k = 30 by omega, ec]; exact hQ M2 (nm_Fr_trans F0 (nm_mF F2 (by decide +kernel))) (nm_M_fr hok hM0 F2 (by decide +kernel))
        · rw [e2 _ (by omega) (by omega), am_w_id (x := (k : Int) + 1 + 1) (by omega) (by omega)]
          have := ih (by omega)
          rw [show ((k + 1 : Nat) : Int) = (k : Int) + 1 by omega] at this
          exact this
      have nights : ∀ k : Nat, k ≤ n.toNat → ∀ M2 l5 l6, nm_Fr [(243, 0, 31)] M0 M2 → (∀ v, 0 ≤ v → v < 31 → am_gt M2 243 v = nm_fn (nx_S X 5) (nm_cc0 ((nx_W X).2.2.1 m)) k v) → am_WP d am_c247 79 [(2, 214), (0, m), (0, n), (0, nx_S X 5), (0, (k : Int)), l5, l6, (9, 0)] [] M2 Q := by
        refine nm_dn ?_
        intro k hk ih M2 l5 l6 F2 e2
        refine h_247_79 (lay F2) ⟨fun h => ?_, fun h => ?_⟩
        · have hke : k = n.toNat := by omega
          subst hke
          exact sums M2 _ F2 e2 rfl 0 (Nat.zero_le _)
        · have flk : ∀ j : Nat, j ≤ 30 → ∀ M3 l6, nm_Fr [(243, 0, 31)] M0 M3 → (∀ v, 0 ≤ v → v < 31 → am_gt M3 243 v = nm_fl (nx_S X 5) (nm_fn (nx_S X 5) (nm_cc0 ((nx_W X).2.2.1 m)) k) j v) → am_WP d am_c247 88 [(2, 214), (0, m), (0, n), (0, nx_S X 5), (0, (k : Int)), (0, (j : Int) + 1), l6, (9, 0)] [] M3 Q := by
            refine nm_dn ?_
            intro j hj ihj M3 l6 F3 e3
            refine h_247_88 (lay F3) ⟨fun h => ?_, fun h => ?_⟩
            · have hje : j = 30 := by omega
              subst hje
              rw [nm_wk (by omega)]
              exact ih (by omega) M3 _ _ F3 e3
            · have w1 : am_w ((j : Int) + 1 - 1) = (j : Int) := by rw [am_w_id (by omega) (by omega)]; omega
              rw [w1, am_w_id (x := (j : Int) + 1 + 1) (by omega) (by omega), e3 _ (by omega) (by omega)]
              refine ⟨by omega, by omega, by omega, by omega, ?_⟩
              have := ihj (by omega) (am_st (am_st M3 243 ((j : Int) + 1) (am_wl ((am_wl (nm_fl (nx_S X 5) (nm_fn (nx_S X 5) (nm_cc0 ((nx_W X).2.2.1 m)) k) j ((j : Int) + 1) * am_w (10 - nx_S X 5))).tdiv 10))) 243 (j : Int) (am_wl (am_gt (am_st M3 243 ((j : Int) + 1) (am_wl ((am_wl (nm_fl (nx_S X 5) (nm_fn (nx_S X 5) (nm_cc0 ((nx_W X).2.2.1 m)) k) j ((j : Int) + 1) * am_w (10 - nx_S X 5))).tdiv 10))) 243 (j : Int) + am_wl ((am_wl (nm_fl (nx_S X 5) (nm_fn (nx_S X 5) (nm_cc0 ((nx_W X).2.2.1 m)) k) j ((j : Int) + 1) * nx_S X 5)).tdiv 10)))) (1, nm_fl (nx_S X 5) (nm_fn (nx_S X 5) (nm_cc0 ((nx_W X).2.2.1 m)) k) j ((j : Int) + 1)) (nm_Fr_st (nm_Fr_st F3 (nm_in_c (lo := 0) (hi := 31) (by decide) (by omega) (by omega))) (nm_in_c (lo := 0) (hi := 31) (by decide) (by omega) (by omega))) (fun v x y => ?_)
              · rw [show ((j + 1 : Nat) : Int) = (j : Int) + 1 by omega] at this
                exact this
              · show _ = nm_f1 (nx_S X 5) (nm_fl (nx_S X 5) (nm_fn (nx_S X 5) (nm_cc0 ((nx_W X).2.2.1 m)) k) j) ((j : Int) + 1) v
                unfold nm_f1
                rw [show (j : Int) + 1 - 1 = (j : Int) by omega]
                by_cases hv : v = (j : Int)
                · subst hv
                  rw [nm_st_eq, nm_up_eq, nm_st_nj (by omega), nm_up_ne (by omega), e3 _ (by omega) (by omega)]
                · rw [nm_st_nj hv, nm_up_ne hv]
                  by_cases hv2 : v = (j : Int) + 1
                  · subst hv2; rw [nm_st_eq, nm_up_eq]
                  · rw [nm_st_nj hv2, nm_up_ne hv2]; exact e3 v x y
          exact flk 0 (Nat.zero_le _) M2 _ F2 e2
      have fill : ∀ k : Nat, k ≤ 31 → ∀ M2, nm_Fr [(243, 0, 31)] M0 M2 → (∀ v, 0 ≤ v → v < (k : Int) → am_gt M2 243 v = nm_cc0 ((nx_W X).2.2.1 m) v) → am_WP d am_c247 31 [(2, 214), (0, m), (0, n), (0, (k : Int)), (9, 0), (9, 0), (9, 0), (9, 0)] [] M2 Q := by
        refine nm_dn ?_
        intro k hk ih M2 F2 e2
        have g15 : am_gt M2 216 (15 + m) = (nx_W X).2.2.1 m := by rw [nm_gt_frn F2 hL (by decide) (by decide +kernel)]; exact hW.2.2.2.2.1 m a0 (by omega)
        have g5 : am_gt M2 216 5 = nx_S X 5 := by rw [nm_gt_frn F2 hL (by decide) (by decide +kernel)]; exact hS 5 (by unfold nm_si; omega)
        refine h_247_31 (lay F2) ?_
        rw [am_w_id (x := 15 + m) (by omega) (by omega), g15, g5, nm_wk (by omega)]
        refine ⟨fun h => ?_, fun h => ⟨by omega, by omega, fun hz => ⟨by omega, by omega, ?_⟩, fun hz => ⟨by omega, by omega, ?_⟩⟩⟩
        · have hke : k = 31 := by omega
          subst hke
          exact nights 0 (Nat.zero_le _) M2 _ _ F2 (fun v x y => e2 v x (by omega))
        · refine ih (by omega) _ (nm_Fr_st F2 (nm_in_c (lo := 0) (hi := 31) (by decide) (by omega) (by omega))) (fun v x y => ?_)
          rw [nm_gt_st]
          by_cases hv : v = (k : Int)
          · rw [if_pos ⟨rfl, hv⟩]; unfold nm_cc0; rw [if_neg (by omega)]
          · rw [if_neg (fun c => hv c.2)]; exact e2 v x (by omega)
        · refine ih (by omega) _ (nm_Fr_st F2 (nm_in_c (lo := 0) (hi := 31) (by decide) (by omega) (by omega))) (fun v x y => ?_)
          rw [nm_gt_st]
          by_cases hv : v = (k : Int)
          · rw [if_pos ⟨rfl, hv⟩]; unfold nm_cc0; rw [if_pos (by omega)]
          · rw [if_neg (fun c => hv c.2)]; exact e2 v x (by omega)
      exact h_247_22 hL ⟨fun _ => fill 0 (Nat.zero_le _) M0 (nm_Fg_refl _ _) (fun v x y => absurd y (by omega)), fun h => absurd h (by decide)⟩
    · rw [if_neg (by omega)] at q
      exact h_247_22 hL ⟨fun h => absurd rfl h, fun _ => q⟩
  · rw [if_neg (by omega)] at q
    exact h_247_10 hL ⟨fun _ => q, fun h => absurd rfl h⟩
