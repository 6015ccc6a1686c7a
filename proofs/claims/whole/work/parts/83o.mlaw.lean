/-! LAW OF THE REFERENCE -/
abbrev rm_bg : nm_Rg := [(214, 14, 22), (214, 23, 24), (214, 26, 27)]
theorem rm_197 {d : Nat} {T : tk_T} {o : Int} {M : am_M} {Q : List am_V → am_M → Prop} (hd : 3 ≤ d) (hT : tk_ok T) (ho : o = 0 ∨ o = 1) (hL : nm_Lay M) (hP : rm_tp M T) (hQ : ∀ M', nm_Fr rm_bg M M' → rm_st M' T o 0 0 0 → am_gt M' 214 21 = 0 → am_gt M' 214 18 = -1 → Q [] M') : am_CL d 197 [(2, 214), (0, o)] M Q := by
  have t0 := hT.1
  have Fs : ∀ (M1 : am_M) (i v : Int), nm_Fr rm_bg M M1 → (14 ≤ i ∧ i < 22) ∨ i = 23 ∨ i = 26 → nm_Fr rm_bg M (am_st M1 214 i v) := by
    intro M1 i v F h
    refine nm_Fr_st F ?_
    rcases h with h | rfl | rfl
    · exact nm_in_c (lo := 14) (hi := 22) (by simp only [List.mem_cons, true_or]) h.1 h.2
    · decide
    · decide
  have lay : ∀ {M'}, nm_Fr rm_bg M M' → nm_Lay M' := fun F => nm_Lay_fr hL F (by decide +kernel)
  have A1 := Fs M 20 o (nm_Fg_refl _ _) (by omega)
  have A2 := Fs _ 15 0 A1 (by omega)
  have A3 := Fs _ 19 0 A2 (by omega)
  have A4 := Fs _ 18 (-1) A3 (by omega)
  refine h_197_0 hL ⟨ho, by omega, h_175_0 (lay A1) (h_175_5 (lay A2) ⟨by omega, ?_⟩)⟩
  have g20 : am_gt (am_st (am_st (am_st (am_st M 214 20 o) 214 15 0) 214 19 0) 214 18 (-1)) 214 20 = o := by simp only [nm_gt_st, Int.reduceEq, and_false, and_true, if_false, if_true]
  have g15 : am_gt (am_st (am_st (am_st (am_st M 214 20 o) 214 15 0) 214 19 0) 214 18 (-1)) 214 15 = 0 := by simp only [nm_gt_st, Int.reduceEq, and_false, and_true, if_false, if_true]
  have g19 : am_gt (am_st (am_st (am_st (am_st M 214 20 o) 214 15 0) 214 19 0) 214 18 (-1)) 214 19 = 0 := by simp only [nm_gt_st, Int.reduceEq, and_false, and_true, if_false, if_true]
  have g18 : am_gt (am_st (am_st (am_st (am_st M 214 20 o) 214 15 0) 214 19 0) 214 18 (-1)) 214 18 = -1 := by simp only [nm_gt_st, Int.reduceEq, and_false, and_true, if_true]
  have gp : rm_tp (am_st (am_st (am_st (am_st M 214 20 o) 214 15 0) 214 19 0) 214 18 (-1)) T := by
    refine ⟨?_, fun i a b => ?_⟩
    · simp only [nm_gt_st, Int.reduceEq, and_false, if_false]; exact hP.1
    · simp only [nm_gt_st, Int.reduceEq, false_and, if_false]; exact hP.2 i a b
  have LA := lay A4
  generalize am_st (am_st (am_st (am_st M 214 20 o) 214 15 0) 214 19 0) 214 18 (-1) = MA at A4 g20 g15 g19 g18 gp LA ⊢
  refine rm_176 (by omega) LA hT gp g15 (Int.le_refl _) t0 (fun M1 F1 hk => ?_)
  have FA : nm_Fr rm_bg M M1 := nm_Fr_trans A4 (nm_Fr_sub F1 (by decide))
  obtain ⟨F1', k1, k2, k3, k4, k5, k6, k7⟩ := rm_sg_k LA F1
  have L1 := lay FA
  have B1 := Fs _ 21 0 FA (by omega)
  have B2 := Fs _ 23 0 B1 (by omega)
  have B3 := Fs _ 26 0 B2 (by omega)
  refine h_175_19 L1 (h_197_9 L1 (h_197_14 (lay B1) (hQ _ B3 ?_ ?_ ?_)))
  · have h20 := rm_o_f LA F1'
    have tp1 := rm_tp_f LA F1' gp
    refine ⟨lay B3, ⟨?_, fun i a b => ?_⟩, ⟨?_, ?_, ?_, ?_⟩, ?_, ?_, ?_, ?_, Int.le_refl _, t0, Int.le_refl _, by decide, Int.le_refl _⟩
    · simp only [nm_gt_st, Int.reduceEq, and_false, if_false]; exact tp1.1
    · simp only [nm_gt_st, Int.reduceEq, false_and, if_false]; exact tp1.2 i a b
    · simp only [nm_gt_st, Int.reduceEq, and_false, if_false]; exact hk.1
    · simp only [nm_gt_st, Int.reduceEq, and_false, if_false]; exact hk.2.1
    · simp only [nm_gt_st, Int.reduceEq, and_false, if_false]; exact hk.2.2.1
    · simp only [nm_gt_st, Int.reduceEq, and_false, if_false]; exact hk.2.2.2
    · simp only [nm_gt_st, Int.reduceEq, and_false, if_false]; exact h20.trans g20
    · simp only [nm_gt_st, Int.reduceEq, and_true, and_false, if_true]
    · simp only [nm_gt_st, Int.reduceEq, and_true, and_false, if_false, if_true]
    · simp only [nm_gt_st, Int.reduceEq, and_false, if_false]; exact k2.trans g19
  · simp only [nm_gt_st, Int.reduceEq, and_true, and_false, if_false, if_true]
  · simp only [nm_gt_st, Int.reduceEq, and_false, if_false]; exact k3.trans g18
/-- a frame that keeps the reference's picture but for the tape and the answers -/
def nm_mokR (f : nm_Rg) : Bool := nm_lk f && (nm_no f 216 && (nm_dj f [(214, 8, 9)] && (nm_no f 217 && (nm_no f 218 && (nm_dj f [(219, 0, 400)] && (nm_no f 220 && nm_no f 246))))))
theorem nm_M_rd {n s : Int} {f : nm_Rg} {M M' : am_M} {X : nm_X} {P : Int → Int} {L : Int} {R : Int → Int} (hok : nm_ok X) (h : nm_M M X) (F : nm_Fg n s f M M') (hf : nm_mokR f = true) (hp : nm_MP M' P L) (hr : nm_MR M' R) (e : R 10 = nx_R X 10) (o20 : am_gt M' 214 20 = 0) : nm_M M' (ns_R (ns_P X P L) R) := by
  unfold nm_mokR at hf
  simp only [Bool.and_eq_true] at hf
  obtain ⟨f1, f2, f3, f4, f5, f6, f7, f10⟩ := hf
  obtain ⟨⟨hL, h2, h3, h4, h5, h6⟩, m2, m3, m4, m5, m6⟩ := h
  have k6 : ∀ i, am_gt M' 216 i = am_gt M 216 i := fun i => nm_gt_frn F hL (by decide) f2
  refine ⟨⟨nm_Lay_fr hL F f1, fun i hi => (k6 i).trans (h2 i hi), nm_MW_kp2 h3 (fun i _ _ => k6 i), h4, fun k k0 k1 => nm_MT_kp2 (h5 k k0 k1) (by omega) (by have := hok.1.1.2.2.1.2; have k1' : k < nx_S X 2 := k1; have : nx_S X 2 ≤ 6 := this; omega) (fun i _ _ => k6 i), o20⟩, fun k a b => ⟨by rw [nm_gt_frn F hL (by decide) f5]; exact (m2 k a b).1, fun e => nm_MI_fr (nm_ok_I hok a b e) ((m2 k a b).2 e) hL F f4⟩, nm_MU_fr m3 hL F f3 f6 f7, hp, hr, ?_⟩
  show nm_MY M' (R 10) (nx_Y X)
  rw [e]; exact nm_MY_fr m6 hL F f10
theorem nm_MR_8 {f : nm_Rg} {M M' : am_M} {R : Int → Int} {v : Int} (hL : nm_Lay M) (h : nm_MR M R) (F : nm_Fr f M M') (h1 : nm_dj f [(214, 1, 2), (214, 11, 12), (214, 54, 55), (214, 58, 59)] = true) (h2 : nm_no f 215 = true) (hv : am_gt M' 214 18 = v) : nm_MR M' (nm_up R 8 v) := by
  obtain ⟨r0, r1, r2, r3, r4, r5⟩ := h
  refine ⟨?_, fun j a b c => ?_, ?_, ?_, ?_, ?_⟩
  · rw [nm_gt_frd F hL (by decide) h1 (by decide), nm_up_ne (by decide)]; exact r0
  · rw [nm_gt_frn F hL (by decide) h2, nm_up_ne (by omega)]; exact r1 j a b c
  · rw [nm_gt_frd F hL (by decide) h1 (by decide), nm_up_ne (by decide)]; exact r2
  · rw [hv, nm_up_eq]
  · rw [nm_gt_frd F hL (by decide) h1 (by decide), nm_up_ne (by decide)]; exact r4
  · rw [nm_gt_frd F hL (by decide) h1 (by decide), nm_up_ne (by decide)]; exact r5
theorem nm_MT_loc {M M' : am_M} {a : Int} {T : nm_T} (h : nm_MT M a T) (hk : ∀ i, a ≤ i → i < a + 900 → am_gt M' 216 i = am_gt M 216 i) : nm_MT M' a T := by
  obtain ⟨h1, h2, h3⟩ := h
  have blk : ∀ i j f, nm_mblk M a i j f → nm_mblk M' a i j f := by
    rintro i j f ⟨cop, car, ht, b1, b2, b3, b4, b5⟩
    exact ⟨cop, car, ht, b1, b2, b3, b4, fun k x y => by rw [hk _ (by omega) (by omega), hk _ (by omega) (by omega)]; exact b5 k x y⟩
  refine ⟨by rw [hk _ (by omega) (by omega)]; exact h1, h2, fun k hl => ?_⟩
  obtain ⟨f, g, q1, q2, q3⟩ := h3 k hl
  refine ⟨f, g, ?_, ?_, ?_⟩
  · rw [hk _ (by omega) (by omega)]; exact q1
  · rw [hk _ (by omega) (by omega), hk _ (by omega) (by omega)]
    rcases q2 with q | ⟨q, r, s⟩
    · exact .inl q
    · exact .inr ⟨q, blk _ _ _ r, s⟩
  · rw [hk _ (by omega) (by omega), hk _ (by omega) (by omega), hk _ (by omega) (by omega)]
    exact fun h => blk _ _ _ (q3 h)
abbrev rm_tg2 : nm_Rg := [(214, 13, 22), (214, 23, 24), (214, 26, 27), (214, 29, 31), (224, 0, 96), (225, 0, 400), (226, 0, 400), (227, 0, 400), (228, 0, 400)]
/-- the law's text is read -/
theorem rm_ltext {d : Nat} {T : tk_T} {M0 M : am_M} {Q : List am_V → am_M → Prop} (hd : 12 ≤ d) (hT : tk_ok T) (hL : nm_Lay M) (hP : rm_tp M T) (hF0 : nm_Fr [(214, 0, 1)] M0 M)
    (hE : ∀ p M', rd_text T 0 = .error p → nm_Fr (rm_tg2 ++ [(214, 0, 1)]) M0 M' → nm_Lay M' → am_gt M' 214 19 = 1 → am_gt M' 214 18 = p → am_gt M' 214 20 = 0 → am_gt M' 214 13 = 0 → am_WP d am_c200 68 [(2, 214), (9, 0), (9, 0)] [] M' Q)
    (hK : ∀ cs M' cl, rd_text T 0 = .ok cs → nm_Fr (rm_tg2 ++ [(214, 0, 1)]) M0 M' → nm_Lay M' → am_gt M' 214 19 = 0 → am_gt M' 214 18 = -1 → am_gt M' 214 20 = 0 → am_gt M' 214 13 = 0 → am_gt M' 214 21 = (cs.length : Int) → am_gt M' 214 23 = cl → 0 ≤ cl → cl ≤ 400 → cs.length ≤ 12 → (∀ k : Nat, k < cs.length → rm_lc M' cl (k : Int) (cs.getD k rd_c0)) → am_WP d am_c200 68 [(2, 214), (9, 0), (9, 0)] [] M' Q) :
    am_CL (d - 1) 197 [(2, 214), (0, 0)] M (fun r M' => am_WP d am_c200 33 [(2, 214), (9, 0), (9, 0)] (r ++ []) M' Q) := by
  have t4 := hT.2.1
  have t0 := hT.1
  have sub1 : ∀ {M1 M2 : am_M}, nm_Fr (rm_tg2 ++ [(214, 0, 1)]) M0 M1 → nm_Fr rm_lg M1 M2 → nm_Fr (rm_tg2 ++ [(214, 0, 1)]) M0 M2 := fun F G => nm_Fr_trans F (nm_Fr_sub G (by decide))
  -- the end, wrong
  have badend : ∀ (p : Int) (M1 : am_M), rd_text T 0 = .error p → nm_Fr (rm_tg2 ++ [(214, 0, 1)]) M0 M1 → nm_Lay M1 → am_gt M1 214 19 = 1 → am_gt M1 214 18 = p → am_WP (d - 1) am_c198 19 [(2, 214)] [] M1 (fun r M' => am_WP d am_c200 68 [(2, 214), (9, 0), (9, 0)] (r ++ []) M' Q) := by
    intro p M1 herr F1 L1 b19 b18
    have F2 : nm_Fr (rm_tg2 ++ [(214, 0, 1)]) M0 (am_st (am_st M1 214 20 0) 214 13 0) := nm_Fr_st (nm_Fr_st F1 (by decide)) (by decide)
    refine h_198_19 L1 (hE p _ herr F2 (nm_Lay_st (nm_Lay_st L1 (by decide +kernel)) (by decide +kernel)) ?_ ?_ ?_ ?_)
    · rw [nm_st_nj (by decide), nm_st_nj (by decide)]; exact b19
    · rw [nm_st_nj (by decide), nm_st_nj (by decide)]; exact b18
    · rw [nm_st_nj (by decide), nm_st_eq]
    · rw [nm_st_eq]
  have bad37 : ∀ (p : Int) (M1 : am_M), rd_text T 0 = .error p → nm_Fr (rm_tg2 ++ [(214, 0, 1)]) M0 M1 → nm_Lay M1 → am_gt M1 214 19 = 1 → am_gt M1 214 18 = p → am_WP d am_c200 37 [(2, 214), (9, 0), (9, 0)] [] M1 Q := by
    intro p M1 herr F1 L1 b19 b18
    refine h_200_37 L1 ⟨fun _ => ⟨by omega, h_198_0 L1 ⟨fun _ => badend p M1 herr F1 L1 b19 b18, fun h => absurd (by rw [b19]; decide) h⟩⟩, fun h => absurd (by rw [b19]; decide) h⟩
  have aft : ∀ (m : Nat) (cs : List rd_C) (s n cl : Int) (M1 : am_M), cs.length + m = 13 → 1 ≤ m → nm_Fr (rm_tg2 ++ [(214, 0, 1)]) M0 M1 → am_gt M1 214 18 = -1 → rm_st M1 T 0 s n cl → am_gt M1 214 21 = (cs.length : Int) → cl ≤ s → (∀ k : Nat, k < cs.length → rm_lc M1 cl (k : Int) (cs.getD k rd_c0)) → rd_text T 0 = (if tk_x T s = rd_tx 38 then rd_txl T 0 m cs (tk_e T s) n else if tk_k T s = 0 then .ok cs else .error (tk_b T s)) → am_WP d am_c200 37 [(2, 214), (9, 0), (9, 0)] [] M1 Q := by
    intro m
    induction m with
    | zero => intro cs s n cl M1 hm h1; omega
    | succ m ih =>
      intro cs s n cl M1 hm _ F1 e18 st1 g21 hsl hcl heq
      have st1' := st1
      obtain ⟨L1, T1, S1, g20, g26, g23, g19, s0, s1, n0, n5, c0⟩ := st1'
      have he := tk_se s1
      refine h_200_37 L1 ⟨fun h => absurd g19 h, fun _ => ⟨by omega, rm_178 38 (by decide +kernel) L1 S1 s1 ?_⟩⟩
      by_cases e38 : tk_x T s = rd_tx 38
      · rw [if_pos e38] at heq ⊢
        refine h_200_50 L1 ⟨fun h => absurd h (by decide), fun _ => ⟨by omega, rm_176 (by omega) L1 hT T1 S1.2.1 (by omega) he.2 (fun M2 F2 hk2 => ?_)⟩⟩
        have st2 := rm_st_n st1 F2 hk2 (by omega) he.2
        obtain ⟨F2', q1, q2, q3, q4, q5, q6, q7⟩ := rm_sg_k L1 F2
        have F2x : nm_Fr (rm_tg2 ++ [(214, 0, 1)]) M0 M2 := nm_Fr_trans F1 (nm_Fr_sub F2 (by decide))
        have g21' : am_gt M2 214 21 = (cs.length : Int) := ((rm_xg_24 L1 F2').2).trans g21
        simp only [rd_txl] at heq
        refine h_200_57 st2.1 ⟨by omega, rm_199 (by omega) hT (by omega) (by omega) st2 g21' (by omega) (fun p M3 hp F3 L3 b19 b18 => ?_) (fun c s4 n4 M3 cl' hok Z3 st3 z3 hle hs3 cla3 => ?_)⟩
        · rw [hp] at heq
          exact h_200_61 L3 (bad37 p M3 heq (sub1 F2x F3) L3 b19 b18)
        · rw [hok] at heq
          have gd := rd_cls_gd (by omega) he.2 n0 n5 hok
          have e18' : am_gt M3 214 18 = -1 := (nm_gt_frd (g := [(214, 18, 19)]) Z3.1 st2.1 (by decide) (by decide) (by decide)).trans (q3.trans e18)
          refine h_200_61 st3.1 (ih (cs ++ [c]) s4 n4 cl' M3 (by simp; omega) (by have := gd.2.2.2.2.2; omega) (sub1 F2x (nm_Fr_sub Z3.1 (by decide))) e18' st3 (by rw [z3]; simp) hs3 (fun k hk => ?_) heq)
          simp at hk
          by_cases hkl : k < cs.length
          · have := hcl k hkl
            rw [show (cs ++ [c]).getD k rd_c0 = cs.getD k rd_c0 by rw [List.getD_eq_getElem?_getD, List.getD_eq_getElem?_getD, List.getElem?_append_left hkl]]
            exact rm_lc_m (rm_lc_m this (fun j _ _ => ⟨q1 _ _ (.inl rfl), q1 _ _ (.inr (.inl rfl))⟩) (fun i _ => (rm_xg_24 L1 F2').1 i) (Int.le_refl _)) Z3.2.1 (fun i hi => Z3.2.2 i (by omega)) hle
          · have : k = cs.length := by omega
            subst this
            rw [show (cs ++ [c]).getD cs.length rd_c0 = c by rw [List.getD_eq_getElem?_getD, List.getElem?_concat_length]; rfl]
            exact cla3
      · rw [if_neg e38] at heq ⊢
        refine h_200_50 L1 ⟨fun _ => ⟨by omega, h_198_0 L1 ⟨fun h => absurd g19 h, fun _ => ?_⟩⟩, fun h => absurd rfl h⟩
        rw [S1.2.2.1]
        refine ⟨fun hk => ?_, fun hk => ⟨by omega, ?_⟩⟩
        · rw [if_pos hk] at heq
          have F2 : nm_Fr (rm_tg2 ++ [(214, 0, 1)]) M0 (am_st (am_st M1 214 20 0) 214 13 0) := nm_Fr_st (nm_Fr_st F1 (by decide)) (by decide)
          refine h_198_19 L1 (hK cs _ cl heq F2 (nm_Lay_st (nm_Lay_st L1 (by decide +kernel)) (by decide +kernel)) ?_ ?_ ?_ ?_ ?_ ?_ c0 (by omega) (by omega) (fun k hk => rm_lc_m (hcl k hk) (fun j _ _ => ⟨(nm_st_ne (by decide)).trans (nm_st_ne (by decide)), (nm_st_ne (by decide)).trans (nm_st_ne (by decide))⟩) (fun i _ => (nm_st_ne (by decide)).trans (nm_st_ne (by decide))) (Int.le_refl _)))
          · rw [nm_st_nj (by decide), nm_st_nj (by decide)]; exact g19
          · rw [nm_st_nj (by decide), nm_st_nj (by decide)]; exact e18
          · rw [nm_st_nj (by decide), nm_st_eq]
          · rw [nm_st_eq]
          · rw [nm_st_nj (by decide), nm_st_nj (by decide)]; exact g21
          · rw [nm_st_nj (by decide), nm_st_nj (by decide)]; exact g23
        · rw [if_neg hk] at heq
          have Fb : nm_Fr (rm_tg2 ++ [(214, 0, 1)]) M0 (am_st (am_st M1 214 19 1) 214 18 (tk_b T s)) := nm_Fr_st (nm_Fr_st F1 (by decide)) (by decide)
          exact rm_179n L1 S1 g19 (badend _ _ heq Fb (nm_Lay_st (nm_Lay_st L1 (by decide +kernel)) (by decide +kernel)) (by rw [nm_st_nj (by decide), nm_st_eq]) (by rw [nm_st_eq]))
  refine rm_197 (by omega) hT (.inl rfl) hL hP (fun M1 F1 st1 g21 g18 => ?_)
  have F1x : nm_Fr (rm_tg2 ++ [(214, 0, 1)]) M0 M1 := nm_Fr_trans (nm_Fr_sub hF0 (by decide)) (nm_Fr_sub F1 (by decide))
  refine h_200_33 st1.1 ⟨by omega, rm_199 (sz := 0) (by omega) hT (by decide) (by decide) st1 g21 (Int.le_refl _) (fun p M3 hp F3 L3 b19 b18 => ?_) (fun c s4 n4 M3 cl' hok Z3 st3 z3 hle hs3 cla3 => ?_)⟩
  · have heq : rd_text T 0 = .error p := by unfold rd_text; simp only [rd_txl, List.length_nil]; rw [show ((0 : Nat) : Int) = 0 from rfl, hp]
    exact bad37 p M3 heq (sub1 F1x F3) L3 b19 b18
  · have e18' : am_gt M3 214 18 = -1 := (nm_gt_frd (g := [(214, 18, 19)]) Z3.1 st1.1 (by decide) (by decide) (by decide)).trans g18
    refine aft 12 [c] s4 n4 cl' M3 rfl (by decide) (sub1 F1x (nm_Fr_sub Z3.1 (by decide))) e18' st3 z3 hs3 (fun k hk => ?_) ?_
    · have : k = 0 := by simp at hk; omega
      subst this
      exact cla3
    · unfold rd_text
      show rd_txl T 0 (12 + 1) [] 0 0 = _
      simp only [rd_txl, List.length_nil]
      rw [show ((0 : Nat) : Int) = 0 from rfl, hok]
      rfl

/-- a law read is a law of the reference's row -/
theorem rm_lc_MT {M M' : am_M} {a cl : Int} {cs : List rd_C} (hlen : cs.length ≤ 12) (c4 : cl ≤ 400) (hcok : ∀ c ∈ cs, rd_cok c) (hcl : ∀ k : Nat, k < cs.length → rm_lc M cl (k : Int) (cs.getD k rd_c0)) (h1 : am_gt M' 216 (a + 1) = (cs.length : Int)) (h2 : ∀ k, 0 ≤ k → k < 8 * (cs.length : Int) → am_gt M' 216 (a + 2 + k) = am_gt M 224 k) (h3 : ∀ k, 0 ≤ k → k < cl → am_gt M' 216 (a + 98 + 2 * k) = am_gt M 225 k ∧ am_gt M' 216 (a + 98 + 2 * k + 1) = am_gt M 226 k) : nm_MT M' a (rd_law cs) := by
  have blk : ∀ i j f, rm_blk M 0 i j cl f → nm_mblk M' a i j f := by
    rintro i j f ⟨b1, b2, b3⟩
    exact ⟨am_gt M 225, am_gt M 226, j - i, b1, by omega, b2, by omega, fun k x y => h3 k (by omega) (by omega)⟩
  refine ⟨by rw [rd_law_len]; exact h1, by rw [rd_law_len]; exact hlen, fun k hk => ?_⟩
  rw [rd_law_len] at hk
  obtain ⟨q0, q1, q2⟩ := hcl k hk
  have e : ∀ j, 0 ≤ j → j < 8 → am_gt M' 216 (a + 2 + 8 * (k : Int) + j) = am_gt M 224 (8 * (k : Int) + j) := fun j a1 a2 => by
    rw [show a + 2 + 8 * (k : Int) + j = a + 2 + (8 * (k : Int) + j) by omega]; exact h2 _ (by omega) (by omega)
  have e0 : am_gt M' 216 (a + 2 + 8 * (k : Int)) = am_gt M 224 (8 * (k : Int)) := h2 _ (by omega) (by omega)
  have hck : rd_cok (cs.getD k rd_c0) := hcok _ (by rw [List.getD_eq_getElem?_getD, List.getElem?_eq_getElem hk]; exact List.getElem_mem hk)
  unfold nm_mcl
  rw [e0, e 3 (by decide) (by decide), e 4 (by decide) (by decide), e 5 (by decide) (by decide), e 6 (by decide) (by decide)]
  refine ⟨(cs.getD k rd_c0).2.1, rd_tg (cs.getD k rd_c0).2.2.2.2, ?_, ?_, fun hne => blk _ _ _ (q1 (by rw [← q0]; exact hne))⟩
  · rw [rd_law_at hk, q0]
  · rcases q2 with ⟨a1, a2⟩ | ⟨g, a1, a2, a3⟩
    · exact .inl ⟨a2, by rw [a1]; rfl⟩
    · exact .inr ⟨a2, by rw [a1]; exact blk _ _ _ a3, by rw [a1]; exact hck.2.2 g a1⟩
theorem nm_M_law {M : am_M} {X : nm_X} {T : nm_T} {M' : am_M} (hok : nm_ok X) (h : nm_M M X) (h6 : nx_S X 2 < 6) (F : nm_Fr [(216, 2, 3), (216, 110, 5510)] M M') (e2 : am_gt M' 216 2 = nx_S X 2 + 1) (hT : nm_MT M' (110 + 900 * nx_S X 2) T) (hk : ∀ i, 110 ≤ i → i < 110 + 900 * nx_S X 2 → am_gt M' 216 i = am_gt M 216 i) : nm_M M' (ns_D X (nm_up (nx_S X) 2 (nx_S X 2 + 1)) (nm_upD (nx_D X) (nx_S X 2) T)) := by
  obtain ⟨⟨hL, m2, m3, hO, m5, m20⟩, n2, n3, n4, n5, n6⟩ := h
  have L' := nm_Lay_fr hL F (by decide +kernel)
  have lo : ∀ i, i < 110 → i ≠ 2 → am_gt M' 216 i = am_gt M 216 i := fun i h1 h2 => nm_gt_fr F (by have := hL.2.2.1; omega) (by
    rw [Bool.eq_false_iff]; intro hi
    obtain ⟨q, hq, a1, a2, a3⟩ := nm_in_iff.mp hi
    simp only [List.mem_cons, List.not_mem_nil, or_false] at hq
    rcases hq with rfl | rfl <;> simp only at a2 a3 <;> omega)
  refine ⟨⟨L', fun i hi => ?_, nm_MW_kp2 m3 (fun i _ b => lo i (by omega) (by omega)), nm_okS_law hO h6, fun k k0 k1 => ?_, (nm_gt_frn F hL (by decide) (by decide)).trans m20⟩, fun k a b => ⟨by rw [nm_gt_frn F hL (by decide) (by decide)]; exact (n2 k a b).1, fun e => nm_MI_fr (nm_ok_I hok a b e) ((n2 k a b).2 e) hL F (by decide)⟩, ?_, nm_MP_fr n4 hL F (by decide) (by decide), nm_MR_fr n5 hL F (by decide) (by decide), nm_MY_fr n6 hL F (by decide)⟩
  · show am_gt M' 216 i = nm_up (nx_S X) 2 (nx_S X 2 + 1) i
    by_cases hi2 : i = 2
    · rw [hi2, nm_up_eq]; exact e2
    · rw [nm_up_ne hi2, lo i (by unfold nm_si at hi; omega) hi2]; exact m2 i hi
  · have k1' : k < nm_up (nx_S X) 2 (nx_S X 2 + 1) 2 := k1
    rw [nm_up_eq] at k1'
    show nm_MT M' (110 + 900 * k) (nm_upD (nx_D X) (nx_S X 2) T k)
    unfold nm_upD
    by_cases hk2 : k = nx_S X 2
    · rw [if_pos hk2, hk2]; exact hT
    · rw [if_neg hk2]; exact nm_MT_loc (m5 k k0 (by omega)) (fun i a b => hk i (by omega) (by omega))
  · have := nm_MU_fr n3 hL F (by decide) (by decide) (by decide)
    obtain ⟨u0, u1, u2⟩ := this
    refine ⟨u0, u1, fun k hk' => ?_⟩
    obtain ⟨q1, q2, q3⟩ := u2 k hk'
    refine ⟨q1, q2, fun i a b => ?_⟩
    show _ = nm_up (nx_S X) 2 (nx_S X 2 + 1) i
    rw [nm_up_ne (by omega)]; exact q3 i a b
theorem nmq_13 {d : Nat} {X : nm_X} {M : am_M} {Q : List am_V → am_M → Prop} (hd : 14 ≤ d) (hok : nm_ok X) (hM : nm_M M X) (hQ : nm_KM (sp_13 X).1 [(0, (sp_13 X).2)] M Q) : am_CL d 200 [(2, 214)] M Q := by
  have hL : nm_Lay M := hM.1.1
  have o2 : 0 ≤ nx_S X 2 ∧ nx_S X 2 ≤ 6 := hok.1.1.2.2.1
  have s2 : am_gt M 216 2 = nx_S X 2 := hM.1.2.1 2 (.inl ⟨by decide, by decide⟩)
  have hT := nm_tkok hok
  have m13 : am_gt M 214 13 = nx_L X := hM.2.2.2.1.1
  have F0 : nm_Fr [(214, 0, 1)] M (am_st M 214 0 0) := nm_Fr_st (nm_Fg_refl _ _) (by decide)
  have M0 := nm_m0 hok hM
  have L0 : nm_Lay (am_st M 214 0 0) := M0.1.1
  have hP : rm_tp (am_st M 214 0 0) (nx_P X, nx_L X) := M0.2.2.2.1
  unfold sp_13 at hQ
  refine h_200_0 hL ?_
  rw [s2]
  refine ⟨fun h => ⟨by omega, ?_⟩, fun h => ⟨by omega, ?_⟩⟩
  · rw [if_neg (by omega)] at hQ
    refine rm_ltext (M0 := M) (by omega) hT L0 hP F0 (fun p M1 hp F1 L1 b19 b18 b20 b13 => ?_) (fun cs M1 cl hp F1 L1 b19 b18 b20 b13 b21 b23 c0 c4 hlen hcl => ?_)
    · rw [hp] at hQ
      have C1 : nm_M M1 (ns_R (ns_P X (nx_P X) 0) (nm_up (nx_R X) 8 p)) := nm_M_rd hok hM F1 (by decide +kernel) ⟨b13, fun i a b => by omega⟩ (nm_MR_8 hL hM.2.2.2.2.1 F1 (by decide) (by decide) b18) (nm_up_ne (by decide)) b20
      have ok1 : nm_ok (ns_R (ns_P X (nx_P X) 0) (nm_up (nx_R X) 8 p)) := nm_ok_R (X := ns_L X 0) (nm_ok_L0 hok) (nm_up_ne (by decide))
      refine h_200_68 L1 ⟨fun h => absurd h (by rw [b19]; decide), fun _ => ⟨by omega, nmy_145 ok1 (by decide) C1 (fun M2 F2 C2 => h_200_81 C2.1.1 (hQ M2 ?_ ?_))⟩⟩
      · exact nm_Fr_trans (nm_Fr_sub F1 (by decide +kernel)) (nm_Fr_sub F2 (by decide +kernel))
      · exact C2
    · rw [hp] at hQ
      obtain ⟨hcok, len1, len2⟩ := rd_text_ok hT hp
      have C1 : nm_M M1 (ns_R (ns_P X (nx_P X) 0) (nm_up (nx_R X) 8 (-1))) := nm_M_rd hok hM F1 (by decide +kernel) ⟨b13, fun i a b => by omega⟩ (nm_MR_8 hL hM.2.2.2.2.1 F1 (by decide) (by decide) b18) (nm_up_ne (by decide)) b20
      have ok1 : nm_ok (ns_R (ns_P X (nx_P X) 0) (nm_up (nx_R X) 8 (-1))) := nm_ok_R (X := ns_L X 0) (nm_ok_L0 hok) (nm_up_ne (by decide))
      have s21 : am_gt M1 216 2 = nx_S X 2 := C1.1.2.1 2 (.inl ⟨by decide, by decide⟩)
      have lenb : (1 : Int) ≤ (cs.length : Int) ∧ (cs.length : Int) ≤ 12 := by omega
      generalize ha : (110 + 900 * nx_S X 2 : Int) = a
      have ab : 110 ≤ a ∧ a ≤ 4610 := by omega
      have wa : am_w (110 + am_w (900 * nx_S X 2)) = a := by rw [am_w_id (x := 900 * nx_S X 2) (by omega) (by omega), ha, am_w_id (by omega) (by omega)]
      have wg : ∀ x, 0 ≤ x → x ≤ 10000 → am_w x = x := fun x h1 h2 => am_w_id (by omega) (by omega)
      -- what the copying keeps
      have Fst : ∀ (M2 : am_M) (i v : Int), nm_Fr [(216, 110, 5510)] M1 M2 → 110 ≤ i → i < 5510 → nm_Fr [(216, 110, 5510)] M1 (am_st M2 216 i v) := fun M2 i v F h1 h2 => nm_Fst F (List.mem_singleton.mpr rfl) h1 h2
      have k22 : ∀ {M2 : am_M}, nm_Fr [(216, 110, 5510)] M1 M2 → ∀ b i, b = 214 ∨ b = 224 ∨ b = 225 ∨ b = 226 → am_gt M2 b i = am_gt M1 b i := fun F b i hb => by
        rcases hb with rfl | rfl | rfl | rfl <;> exact nm_gt_frn F L1 (by decide) (by decide)
      have lay : ∀ {M2 : am_M}, nm_Fr [(216, 110, 5510)] M1 M2 → nm_Lay M2 := fun F => nm_Lay_fr L1 F (by decide +kernel)
      -- code
      have loop2 : ∀ (m k : Nat) (M2 : am_M), (cl - (k : Int)).toNat ≤ m → (k : Int) ≤ cl → nm_Fr [(216, 110, 5510)] M1 M2 → (∀ i, 110 ≤ i → i < a → am_gt M2 216 i = am_gt M1 216 i) → am_gt M2 216 (a + 1) = (cs.length : Int) → (∀ j, 0 ≤ j → j < 8 * (cs.length : Int) → am_gt M2 216 (a + 2 + j) = am_gt M1 224 j) → (∀ j, 0 ≤ j → j < (k : Int) → am_gt M2 216 (a + 98 + 2 * j) = am_gt M1 225 j ∧ am_gt M2 216 (a + 98 + 2 * j + 1) = am_gt M1 226 j) → am_WP d am_c200 145 [(2, 214), (0, a), (0, (k : Int))] [] M2 Q := by
        have end2 : ∀ (M2 : am_M), nm_Fr [(216, 110, 5510)] M1 M2 → (∀ i, 110 ≤ i → i < a → am_gt M2 216 i = am_gt M1 216 i) → am_gt M2 216 (a + 1) = (cs.length : Int) → (∀ j, 0 ≤ j → j < 8 * (cs.length : Int) → am_gt M2 216 (a + 2 + j) = am_gt M1 224 j) → (∀ j, 0 ≤ j → j < cl → am_gt M2 216 (a + 98 + 2 * j) = am_gt M1 225 j ∧ am_gt M2 216 (a + 98 + 2 * j + 1) = am_gt M1 226 j) → am_WP d am_c200 145 [(2, 214), (0, a), (0, cl)] [] M2 Q := by
          intro M2 F2 q1 q2 q3 q4
          have s22 : am_gt M2 216 2 = nx_S X 2 := (nm_gt_frd (g := [(216, 2, 3)]) F2 L1 (by decide) (by decide) (by decide)).trans s21
          refine h_200_145 (lay F2) ?_
          rw [k22 F2 214 23 (.inl rfl), b23, s22, wg (nx_S X 2 + 1) (by omega) (by omega), show am_w (nx_S X 2 + 1 - 1) = nx_S X 2 by rw [am_w_id (by omega) (by omega)]; omega]
          refine ⟨fun _ => ⟨by omega, ?_⟩, fun h => absurd (Int.le_refl _) h⟩
          have F3 : nm_Fr [(216, 2, 3), (216, 110, 5510)] M1 (am_st M2 216 2 (nx_S X 2 + 1)) := nm_Fr_st (nm_Fr_sub F2 (by decide)) (by decide)
          have nm : ∀ i, i ≠ 2 → am_gt (am_st M2 216 2 (nx_S X 2 + 1)) 216 i = am_gt M2 216 i := fun i hi => nm_st_nj hi
          have MT : nm_MT (am_st M2 216 2 (nx_S X 2 + 1)) (110 + 900 * nx_S X 2) (rd_law cs) := by
            rw [ha]
            exact rm_lc_MT hlen c4 hcok hcl ((nm _ (by omega)).trans q2) (fun k x y => (nm _ (by omega)).trans (q3 k x y)) (fun k x y => ⟨(nm _ (by omega)).trans (q4 k x y).1, (nm _ (by omega)).trans (q4 k x y).2⟩)
          have C3 := nm_M_law ok1 C1 (show nx_S X 2 < 6 by omega) F3 nm_st_eq MT (fun i x y => (nm i (by omega)).trans (q1 i x (by rw [← ha]; exact y)))
          have ok3 : nm_ok (ns_D (ns_R (ns_P X (nx_P X) 0) (nm_up (nx_R X) 8 (-1))) (nm_up (nx_S X) 2 (nx_S X 2 + 1)) (nm_upD (nx_D X) (nx_S X 2) (rd_law cs))) := by
            obtain ⟨g, i, u, l⟩ := ok1
            refine ⟨⟨nm_okS_law g.1 (show nx_S X 2 < 6 by omega), nm_okC_eq g.2.1 g.1.1.2 (fun j hj => nm_up_ne (by omega)), ?_, g.2.2.2⟩, i, ⟨u.1, fun x hx => ?_⟩, l⟩
            · show nm_okW (nm_up (nx_S X) 2 (nx_S X 2 + 1) 0) _
              rw [nm_up_ne (by decide)]; exact g.2.2.1
            · show 0 ≤ x.1 ∧ x.1 ≤ 3 ∧ nm_okW (nm_up (nx_S X) 2 (nx_S X 2 + 1) 0) x.2 ∧ x.2.1 ≤ 999
              rw [nm_up_ne (by decide)]; exact u.2 x hx
          refine nmy_145 ok3 (.inl o2.1) C3 (fun M4 F4 C4 => h_200_221 C4.1.1 (hQ M4 ?_ ?_))
          · exact nm_Fr_trans (nm_Fr_sub F1 (by decide +kernel)) (nm_Fr_trans (nm_Fr_sub F3 (by decide +kernel)) (nm_Fr_sub F4 (by decide +kernel)))
          · have e : nx_tl (ns_D (ns_R (ns_P X (nx_P X) 0) (nm_up (nx_R X) 8 (-1))) (nm_up (nx_S X) 2 (nx_S X 2 + 1)) (nm_upD (nx_D X) (nx_S X 2) (rd_law cs))) (nx_S X 2) = nx_fn (ns_R (ns_L (ns_D X (nm_up (nx_S X) 2 (nx_S X 2 + 1)) (nm_upD (nx_D X) (nx_S X 2) (rd_law cs))) 0) (nm_up (nx_R X) 8 (-1))) := by
              unfold nx_tl nm_tl1; rw [if_neg (by omega)]; rfl
            rw [e] at C4; exact C4
        intro m
        induction m with
        | zero =>
          intro k M2 hm hk F2 q1 q2 q3 q4
          have : (k : Int) = cl := by omega
          rw [this] at q4 ⊢; exact end2 M2 F2 q1 q2 q3 q4
        | succ m ih =>
          intro k M2 hm hk F2 q1 q2 q3 q4
          by_cases hkc : (k : Int) = cl
          · rw [hkc] at q4 ⊢; exact end2 M2 F2 q1 q2 q3 q4
          · refine h_200_145 (lay F2) ?_
            rw [k22 F2 214 23 (.inl rfl), b23]
            refine ⟨fun h => absurd h (by omega), fun _ => ?_⟩
            rw [wg (a + 98) (by omega) (by omega), wg (2 * (k : Int)) (by omega) (by omega), wg (a + 98 + 2 * (k : Int)) (by omega) (by omega), wg (a + 98 + 2 * (k : Int) + 1) (by omega) (by omega), wg ((k : Int) + 1) (by omega) (by omega), k22 F2 225 _ (by omega), k22 F2 226 _ (by omega)]
            refine ⟨by omega, by omega, by omega, by omega, by omega, by omega, ?_⟩
            have nm : ∀ i, i ≠ a + 98 + 2 * (k : Int) → i ≠ a + 98 + 2 * (k : Int) + 1 → am_gt (am_st (am_st M2 216 (a + 98 + 2 * (k : Int)) (am_gt M1 225 (k : Int))) 216 (a + 98 + 2 * (k : Int) + 1) (am_gt M1 226 (k : Int))) 216 i = am_gt M2 216 i := fun i h1 h2 => (nm_st_nj h2).trans (nm_st_nj h1)
            have := ih (k + 1) _ (by omega) (by omega) (Fst _ _ _ (Fst _ _ _ F2 (by omega) (by omega)) (by omega) (by omega)) (fun i x y => (nm i (by omega) (by omega)).trans (q1 i x y)) ((nm _ (by omega) (by omega)).trans q2) (fun j x y => (nm _ (by omega) (by omega)).trans (q3 j x y)) (fun j x y => ?_)
            · rw [show ((k + 1 : Nat) : Int) = (k : Int) + 1 by omega] at this; exact this
            · by_cases hj : j = (k : Int)
              · rw [hj]; exact ⟨(nm_st_nj (by omega)).trans nm_st_eq, nm_st_eq⟩
              · exact ⟨(nm _ (by omega) (by omega)).trans (q4 j x (by omega)).1, (nm _ (by omega) (by omega)).trans (q4 j x (by omega)).2⟩
      -- clauses
      have loop1 : ∀ (m k : Nat) (M2 : am_M), (8 * (cs.length : Int) - (k : Int)).toNat ≤ m → (k : Int) ≤ 8 * (cs.length : Int) → nm_Fr [(216, 110, 5510)] M1 M2 → (∀ i, 110 ≤ i → i < a → am_gt M2 216 i = am_gt M1 216 i) → am_gt M2 216 (a + 1) = (cs.length : Int) → (∀ j, 0 ≤ j → j < (k : Int) → am_gt M2 216 (a + 2 + j) = am_gt M1 224 j) → am_WP d am_c200 110 [(2, 214), (0, a), (0, (k : Int))] [] M2 Q := by
        have w8 : am_w (8 * (cs.length : Int)) = 8 * (cs.length : Int) := wg _ (by omega) (by omega)
        intro m
        induction m with
        | zero =>
          intro k M2 hm hk F2 q1 q2 q3
          have hk8 : (k : Int) = 8 * (cs.length : Int) := by omega
          refine h_200_110 (lay F2) ?_
          rw [k22 F2 214 21 (.inl rfl), b21, w8]
          refine ⟨fun _ => ?_, fun h => absurd (by omega) h⟩
          exact loop2 _ 0 M2 (Nat.le_refl _) c0 F2 q1 q2 (fun j x y => q3 j x (by omega)) (fun j x y => by omega)
        | succ m ih =>
          intro k M2 hm hk F2 q1 q2 q3
          refine h_200_110 (lay F2) ?_
          rw [k22 F2 214 21 (.inl rfl), b21, w8]
          refine ⟨fun h => loop2 _ 0 M2 (Nat.le_refl _) c0 F2 q1 q2 (fun j x y => q3 j x (by omega)) (fun j x y => by omega), fun h => ?_⟩
          rw [wg (a + 2) (by omega) (by omega), wg (a + 2 + (k : Int)) (by omega) (by omega), wg ((k : Int) + 1) (by omega) (by omega), k22 F2 224 _ (by omega)]
          refine ⟨by omega, by omega, by omega, by omega, ?_⟩
          have nm : ∀ i, i ≠ a + 2 + (k : Int) → am_gt (am_st M2 216 (a + 2 + (k : Int)) (am_gt M1 224 (k : Int))) 216 i = am_gt M2 216 i := fun i h1 => nm_st_nj h1
          have := ih (k + 1) _ (by omega) (by omega) (Fst _ _ _ F2 (by omega) (by omega)) (fun i x y => (nm i (by omega)).trans (q1 i x y)) ((nm _ (by omega)).trans q2) (fun j x y => ?_)
          · rw [show ((k + 1 : Nat) : Int) = (k : Int) + 1 by omega] at this; exact this
          · by_cases hj : j = (k : Int)
            · rw [hj]; exact nm_st_eq
            · exact (nm _ (by omega)).trans (q3 j x (by omega))
      refine h_200_68 L1 ⟨fun _ => ?_, fun h => absurd b19 h⟩
      rw [s21, wa, wg (a + 1) (by omega) (by omega), b21]
      refine ⟨by omega, by omega, ?_⟩
      exact loop1 _ 0 _ (Nat.le_refl _) (by omega) (Fst _ _ _ (nm_Fg_refl _ _) (by omega) (by omega)) (fun i x y => nm_st_nj (by omega)) nm_st_eq (fun j x y => by omega)
  · rw [if_pos (by omega)] at hQ
    have F1 : nm_Fr [(214, 0, 1), (214, 13, 14)] M (am_st (am_st M 214 0 0) 214 13 0) := nm_Fr_st (nm_Fr_st (nm_Fg_refl _ _) (by decide)) (by decide)
    have C1 : nm_M (am_st (am_st M 214 0 0) 214 13 0) (ns_R (ns_P X (nx_P X) 0) (nx_R X)) := nm_M_rd hok hM F1 (by decide +kernel) ⟨nm_st_eq, fun i a b => by omega⟩ (nm_MR_fr hM.2.2.2.2.1 hL F1 (by decide) (by decide)) rfl ((nm_gt_frd (g := [(214, 20, 21)]) F1 hL (by decide) (by decide) (by decide)).trans hM.1.2.2.2.2.2)
    exact nmy_145 (X := ns_L X 0) (nm_ok_L0 hok) (by decide) C1 (fun M2 F2 C2 => h_200_27 C2.1.1 (hQ M2 (nm_Fr_trans (nm_Fr_sub F1 (by decide +kernel)) (nm_Fr_sub F2 (by decide +kernel))) C2))
