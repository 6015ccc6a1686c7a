/-! THE ORDERS' TEXT, THE REFERENCE -/
abbrev rm_tg3 : nm_Rg := [(214, 13, 22), (214, 23, 24), (214, 26, 27), (214, 29, 31), (225, 0, 400), (226, 0, 400), (227, 0, 400), (228, 0, 400), (245, 0, 96)]
/-- the orders' text is read -/
theorem rm_otext {d : Nat} {T : tk_T} {M : am_M} {Q : List am_V → am_M → Prop} (hd : 17 ≤ d) (hT : tk_ok T) (hL : nm_Lay M) (hP : rm_tp M T)
    (hE : ∀ p M', rd_text T 1 = .error p → nm_Fr rm_tg3 M M' → nm_Lay M' → am_gt M' 214 19 = 1 → am_gt M' 214 18 = p → am_gt M' 214 20 = 0 → am_gt M' 214 13 = 0 → am_WP d am_c254 50 [(2, 214), (9, 0), (9, 0), (9, 0)] [] M' Q)
    (hK : ∀ cs M' cl, rd_text T 1 = .ok cs → nm_Fr rm_tg3 M M' → nm_Lay M' → am_gt M' 214 19 = 0 → am_gt M' 214 18 = -1 → am_gt M' 214 20 = 0 → am_gt M' 214 13 = 0 → am_gt M' 214 21 = (cs.length : Int) → am_gt M' 214 23 = cl → 0 ≤ cl → cl ≤ 400 → cs.length ≤ 12 → (∀ k : Nat, k < cs.length → rm_oc M' cl (k : Int) (cs.getD k rd_c0)) → am_WP d am_c254 50 [(2, 214), (9, 0), (9, 0), (9, 0)] [] M' Q) :
    am_CL (d - 1) 197 [(2, 214), (0, 1)] M (fun r M' => am_WP d am_c254 15 [(2, 214), (9, 0), (9, 0), (9, 0)] (r ++ []) M' Q) := by
  have t4 := hT.2.1
  have t0 := hT.1
  have sub1 : ∀ {M1 M2 : am_M}, nm_Fr rm_tg3 M M1 → nm_Fr rm_og M1 M2 → nm_Fr rm_tg3 M M2 := fun F G => nm_Fr_trans F (nm_Fr_sub G (by decide))
  -- the end, wrong
  have badend : ∀ (p : Int) (M1 : am_M), rd_text T 1 = .error p → nm_Fr rm_tg3 M M1 → nm_Lay M1 → am_gt M1 214 19 = 1 → am_gt M1 214 18 = p → am_WP (d - 1) am_c198 19 [(2, 214)] [] M1 (fun r M' => am_WP d am_c254 50 [(2, 214), (9, 0), (9, 0), (9, 0)] (r ++ []) M' Q) := by
    intro p M1 herr F1 L1 b19 b18
    have F2 : nm_Fr rm_tg3 M (am_st (am_st M1 214 20 0) 214 13 0) := nm_Fr_st (nm_Fr_st F1 (by decide)) (by decide)
    refine h_198_19 L1 (hE p _ herr F2 (nm_Lay_st (nm_Lay_st L1 (by decide +kernel)) (by decide +kernel)) ?_ ?_ ?_ ?_)
    · rw [nm_st_nj (by decide), nm_st_nj (by decide)]; exact b19
    · rw [nm_st_nj (by decide), nm_st_nj (by decide)]; exact b18
    · rw [nm_st_nj (by decide), nm_st_eq]
    · rw [nm_st_eq]
  have bad37 : ∀ (p : Int) (M1 : am_M), rd_text T 1 = .error p → nm_Fr rm_tg3 M M1 → nm_Lay M1 → am_gt M1 214 19 = 1 → am_gt M1 214 18 = p → am_WP d am_c254 19 [(2, 214), (9, 0), (9, 0), (9, 0)] [] M1 Q := by
    intro p M1 herr F1 L1 b19 b18
    refine h_254_19 L1 ⟨fun _ => ⟨by omega, h_198_0 L1 ⟨fun _ => badend p M1 herr F1 L1 b19 b18, fun h => absurd (by rw [b19]; decide) h⟩⟩, fun h => absurd (by rw [b19]; decide) h⟩
  have aft : ∀ (m : Nat) (cs : List rd_C) (s n cl : Int) (M1 : am_M), cs.length + m = 13 → 1 ≤ m → nm_Fr rm_tg3 M M1 → am_gt M1 214 18 = -1 → rm_st M1 T 1 s n cl → am_gt M1 214 21 = (cs.length : Int) → cl ≤ s → (∀ k : Nat, k < cs.length → rm_oc M1 cl (k : Int) (cs.getD k rd_c0)) → rd_text T 1 = (if tk_x T s = rd_tx 38 then rd_txl T 1 m cs (tk_e T s) n else if tk_k T s = 0 then .ok cs else .error (tk_b T s)) → am_WP d am_c254 19 [(2, 214), (9, 0), (9, 0), (9, 0)] [] M1 Q := by
    intro m
    induction m with
    | zero => intro cs s n cl M1 hm h1; omega
    | succ m ih =>
      intro cs s n cl M1 hm _ F1 e18 st1 g21 hsl hcl heq
      have st1' := st1
      obtain ⟨L1, T1, S1, g20, g26, g23, g19, s0, s1, n0, n5, c0⟩ := st1'
      have he := tk_se s1
      refine h_254_19 L1 ⟨fun h => absurd g19 h, fun _ => ⟨by omega, rm_178 38 (by decide +kernel) L1 S1 s1 ?_⟩⟩
      by_cases e38 : tk_x T s = rd_tx 38
      · rw [if_pos e38] at heq ⊢
        refine h_254_32 L1 ⟨fun h => absurd h (by decide), fun _ => ⟨by omega, rm_176 (by omega) L1 hT T1 S1.2.1 (by omega) he.2 (fun M2 F2 hk2 => ?_)⟩⟩
        have st2 := rm_st_n st1 F2 hk2 (by omega) he.2
        obtain ⟨F2', q1, q2, q3, q4, q5, q6, q7⟩ := rm_sg_k L1 F2
        have F2x : nm_Fr rm_tg3 M M2 := nm_Fr_trans F1 (nm_Fr_sub F2 (by decide))
        have g21' : am_gt M2 214 21 = (cs.length : Int) := ((rm_xg_45 L1 F2').2).trans g21
        simp only [rd_txl] at heq
        refine h_254_39 st2.1 ⟨by omega, rm_250 (by omega) hT (by omega) (by omega) st2 g21' (by omega) (fun p M3 hp F3 L3 b19 b18 => ?_) (fun c s4 n4 M3 cl' hok Z3 st3 hle hs3 cla3 => ?_)⟩
        · rw [hp] at heq
          exact h_254_43 L3 (bad37 p M3 heq (sub1 F2x F3) L3 b19 b18)
        · rw [hok] at heq
          have gd := rd_cls_gd (by omega) he.2 n0 n5 hok
          have z3 := Z3.2.2.2
          have e18' : am_gt M3 214 18 = -1 := (nm_gt_frd (g := [(214, 18, 19)]) Z3.1 st2.1 (by decide) (by decide) (by decide)).trans (q3.trans e18)
          refine h_254_43 st3.1 (ih (cs ++ [c]) s4 n4 cl' M3 (by simp; omega) (by have := gd.2.2.2.2.2; omega) (sub1 F2x (nm_Fr_sub Z3.1 (by decide))) e18' st3 (by rw [z3]; simp) hs3 (fun k hk => ?_) heq)
          simp at hk
          by_cases hkl : k < cs.length
          · have := hcl k hkl
            rw [show (cs ++ [c]).getD k rd_c0 = cs.getD k rd_c0 by rw [List.getD_eq_getElem?_getD, List.getD_eq_getElem?_getD, List.getElem?_append_left hkl]]
            exact rm_oc_m (rm_oc_m this (fun j _ _ => ⟨q1 _ _ (.inl rfl), q1 _ _ (.inr (.inl rfl))⟩) (fun i _ => (rm_xg_45 L1 F2').1 i) (Int.le_refl _)) Z3.2.1 (fun i hi => Z3.2.2.1 i (by omega)) hle
          · have : k = cs.length := by omega
            subst this
            rw [show (cs ++ [c]).getD cs.length rd_c0 = c by rw [List.getD_eq_getElem?_getD, List.getElem?_concat_length]; rfl]
            exact cla3
      · rw [if_neg e38] at heq ⊢
        refine h_254_32 L1 ⟨fun _ => ⟨by omega, h_198_0 L1 ⟨fun h => absurd g19 h, fun _ => ?_⟩⟩, fun h => absurd rfl h⟩
        rw [S1.2.2.1]
        refine ⟨fun hk => ?_, fun hk => ⟨by omega, ?_⟩⟩
        · rw [if_pos hk] at heq
          have F2 : nm_Fr rm_tg3 M (am_st (am_st M1 214 20 0) 214 13 0) := nm_Fr_st (nm_Fr_st F1 (by decide)) (by decide)
          refine h_198_19 L1 (hK cs _ cl heq F2 (nm_Lay_st (nm_Lay_st L1 (by decide +kernel)) (by decide +kernel)) ?_ ?_ ?_ ?_ ?_ ?_ c0 (by omega) (by omega) (fun k hk => rm_oc_m (hcl k hk) (fun j _ _ => ⟨(nm_st_ne (by decide)).trans (nm_st_ne (by decide)), (nm_st_ne (by decide)).trans (nm_st_ne (by decide))⟩) (fun i _ => (nm_st_ne (by decide)).trans (nm_st_ne (by decide))) (Int.le_refl _)))
          · rw [nm_st_nj (by decide), nm_st_nj (by decide)]; exact g19
          · rw [nm_st_nj (by decide), nm_st_nj (by decide)]; exact e18
          · rw [nm_st_nj (by decide), nm_st_eq]
          · rw [nm_st_eq]
          · rw [nm_st_nj (by decide), nm_st_nj (by decide)]; exact g21
          · rw [nm_st_nj (by decide), nm_st_nj (by decide)]; exact g23
        · rw [if_neg hk] at heq
          have Fb : nm_Fr rm_tg3 M (am_st (am_st M1 214 19 1) 214 18 (tk_b T s)) := nm_Fr_st (nm_Fr_st F1 (by decide)) (by decide)
          exact rm_179n L1 S1 g19 (badend _ _ heq Fb (nm_Lay_st (nm_Lay_st L1 (by decide +kernel)) (by decide +kernel)) (by rw [nm_st_nj (by decide), nm_st_eq]) (by rw [nm_st_eq]))
  refine rm_197 (by omega) hT (.inr rfl) hL hP (fun M1 F1 st1 g21 g18 => ?_)
  have F1x : nm_Fr rm_tg3 M M1 := nm_Fr_sub F1 (by decide)
  refine h_254_15 st1.1 ⟨by omega, rm_250 (sz := 0) (by omega) hT (by decide) (by decide) st1 g21 (Int.le_refl _) (fun p M3 hp F3 L3 b19 b18 => ?_) (fun c s4 n4 M3 cl' hok Z3 st3 hle hs3 cla3 => ?_)⟩
  · have heq : rd_text T 1 = .error p := by unfold rd_text; simp only [rd_txl, List.length_nil]; rw [show ((0 : Nat) : Int) = 0 from rfl, hp]
    exact bad37 p M3 heq (sub1 F1x F3) L3 b19 b18
  · have z3 := Z3.2.2.2
    have e18' : am_gt M3 214 18 = -1 := (nm_gt_frd (g := [(214, 18, 19)]) Z3.1 st1.1 (by decide) (by decide) (by decide)).trans g18
    refine aft 12 [c] s4 n4 cl' M3 rfl (by decide) (sub1 F1x (nm_Fr_sub Z3.1 (by decide))) e18' st3 z3 hs3 (fun k hk => ?_) ?_
    · have : k = 0 := by simp at hk; omega
      subst this
      exact cla3
    · unfold rd_text
      show rd_txl T 1 (12 + 1) [] 0 0 = _
      simp only [rd_txl, List.length_nil]
      rw [show ((0 : Nat) : Int) = 0 from rfl, hok]
      rfl

