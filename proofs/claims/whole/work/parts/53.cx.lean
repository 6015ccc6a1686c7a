/-! THE WHOLE STATE, AND THE CLASS'S PICTURE OF IT -/
/-- what an image keeps: numbers, works, laws -/
abbrev nm_G : Type := (Int → Int) × nm_W × (Int → nm_T)
/-- the state, images, which are kept, what is undone, the tape, its length, answers, the year drawn -/
abbrev nm_X : Type := nm_G × (Int → nm_G) × (Int → Int) × List (Int × nm_W) × (Int → Int) × Int × (Int → Int) × nm_W
abbrev nx_S (X : nm_X) : Int → Int := X.1.1
abbrev nx_W (X : nm_X) : nm_W := X.1.2.1
abbrev nx_D (X : nm_X) : Int → nm_T := X.1.2.2
abbrev nx_I (X : nm_X) : Int → nm_G := X.2.1
abbrev nx_K (X : nm_X) : Int → Int := X.2.2.1
abbrev nx_U (X : nm_X) : List (Int × nm_W) := X.2.2.2.1
abbrev nx_P (X : nm_X) : Int → Int := X.2.2.2.2.1
abbrev nx_L (X : nm_X) : Int := X.2.2.2.2.2.1
abbrev nx_R (X : nm_X) : Int → Int := X.2.2.2.2.2.2.1
abbrev nx_Y (X : nm_X) : nm_W := X.2.2.2.2.2.2.2
def ns_S (X : nm_X) (S : Int → Int) : nm_X := ((S, X.1.2), X.2)
def ns_W (X : nm_X) (W : nm_W) : nm_X := ((X.1.1, W, X.1.2.2), X.2)
def ns_U (X : nm_X) (U : List (Int × nm_W)) : nm_X := (X.1, X.2.1, X.2.2.1, U, X.2.2.2.2)
def ns_L (X : nm_X) (L : Int) : nm_X := (X.1, X.2.1, X.2.2.1, X.2.2.2.1, X.2.2.2.2.1, L, X.2.2.2.2.2.2)
def ns_P (X : nm_X) (P : Int → Int) (L : Int) : nm_X := (X.1, X.2.1, X.2.2.1, X.2.2.2.1, P, L, X.2.2.2.2.2.2)
def ns_R (X : nm_X) (R : Int → Int) : nm_X := (X.1, X.2.1, X.2.2.1, X.2.2.2.1, X.2.2.2.2.1, X.2.2.2.2.2.1, R, X.2.2.2.2.2.2.2)
def ns_Y (X : nm_X) (R : Int → Int) (Y : nm_W) : nm_X := (X.1, X.2.1, X.2.2.1, X.2.2.2.1, X.2.2.2.2.1, X.2.2.2.2.2.1, R, Y)
def nx_rf (X : nm_X) (v : Int) : nm_X := ns_R X (nm_rf1 (nx_R X) v)
def nx_fn (X : nm_X) : nm_X := ns_R X (nm_fn1 (nx_R X))
def nx_tl (X : nm_X) (a : Int) : nm_X := ns_R X (nm_tl1 (nx_R X) a)
/-- an image of the class -/
def nm_CI (M : am_M) (b : Int) (G : nm_G) : Prop := nm_CS M b G.1 ∧ nm_CX M b G.1 G.2.2 ∧ nm_CW M (b + 10) G.2.1
def nm_CP (M : am_M) (P : Int → Int) (L : Int) : Prop := am_gt M 30 1 = L ∧ ∀ i, 0 ≤ i → i < L → am_gt M 31 i = P i
def nm_C (M : am_M) (X : nm_X) : Prop := nm_CA M (nx_S X) (nx_D X) ∧ nm_CW M 11 (nx_W X) ∧ nm_TX M 1 ∧ nm_TX M 186 ∧ nm_TX M 200 ∧ (am_gt M 16 0 = nx_K X 0 ∧ (nx_K X 0 = 1 → nm_CI M 186 (nx_I X 0))) ∧ (am_gt M 16 1 = nx_K X 1 ∧ (nx_K X 1 = 1 → nm_CI M 200 (nx_I X 1))) ∧ nm_CU M 34 (nx_U X) ∧ nm_CUp M 101 ∧ nm_CP M (nx_P X) (nx_L X) ∧ nm_CR M (nx_R X) ∧ (nx_R X 10 = -1 ∨ nm_CW M 180 (nx_Y X))
/-- all that the class may change, and all that the reference may -/
def nm_cAll : nm_Rg := [(0, 14, 19), (1, 0, 1), (1, 6, 7), (1, 10, 14), (1, 15, 16), (2, 0, 6), (3, 0, 30), (4, 0, 6), (5, 0, 6), (6, 0, 8), (7, 0, 8), (8, 0, 8), (9, 0, 8), (10, 0, 6), (11, 0, 2), (12, 0, 6), (13, 0, 6), (14, 0, 8), (16, 0, 2), (18, 0, 18), (19, 0, 64), (20, 11, 17), (21, 0, 6), (22, 0, 288), (23, 0, 36), (24, 0, 36), (25, 0, 6), (26, 0, 8), (27, 0, 8), (28, 0, 2048), (29, 0, 8), (30, 1, 9), (30, 10, 11), (30, 12, 13), (31, 0, 400), (32, 0, 436), (33, 0, 60), (34, 0, 1), (35, 0, 16), (36, 0, 16), (37, 0, 2), (38, 0, 6), (39, 0, 6), (40, 0, 8), (41, 0, 2), (42, 0, 6), (43, 0, 6), (44, 0, 8), (45, 0, 2), (46, 0, 6), (47, 0, 6), (48, 0, 8), (49, 0, 2), (50, 0, 6), (51, 0, 6), (52, 0, 8), (53, 0, 2), (54, 0, 6), (55, 0, 6), (56, 0, 8), (57, 0, 2), (58, 0, 6), (59, 0, 6), (60, 0, 8), (61, 0, 2), (62, 0, 6), (63, 0, 6), (64, 0, 8), (65, 0, 2), (66, 0, 6), (67, 0, 6), (68, 0, 8), (69, 0, 2), (70, 0, 6), (71, 0, 6), (72, 0, 8), (73, 0, 2), (74, 0, 6), (75, 0, 6), (76, 0, 8), (77, 0, 2), (78, 0, 6), (79, 0, 6), (80, 0, 8), (81, 0, 2), (82, 0, 6), (83, 0, 6), (84, 0, 8), (85, 0, 2), (86, 0, 6), (87, 0, 6), (88, 0, 8), (89, 0, 2), (90, 0, 6), (91, 0, 6), (92, 0, 8), (93, 0, 2), (94, 0, 6), (95, 0, 6), (96, 0, 8), (97, 0, 2), (98, 0, 6), (99, 0, 6), (100, 0, 8), (101, 0, 1), (102, 0, 16), (103, 0, 16), (104, 0, 2), (105, 0, 6), (106, 0, 6), (107, 0, 8), (108, 0, 2), (109, 0, 6), (110, 0, 6), (111, 0, 8), (112, 0, 2), (113, 0, 6), (114, 0, 6), (115, 0, 8), (116, 0, 2), (117, 0, 6), (118, 0, 6), (119, 0, 8), (120, 0, 2), (121, 0, 6), (122, 0, 6), (123, 0, 8), (124, 0, 2), (125, 0, 6), (126, 0, 6), (127, 0, 8), (128, 0, 2), (129, 0, 6), (130, 0, 6), (131, 0, 8), (132, 0, 2), (133, 0, 6), (134, 0, 6), (135, 0, 8), (136, 0, 2), (137, 0, 6), (138, 0, 6), (139, 0, 8), (140, 0, 2), (141, 0, 6), (142, 0, 6), (143, 0, 8), (144, 0, 2), (145, 0, 6), (146, 0, 6), (147, 0, 8), (148, 0, 2), (149, 0, 6), (150, 0, 6), (151, 0, 8), (152, 0, 2), (153, 0, 6), (154, 0, 6), (155, 0, 8), (156, 0, 2), (157, 0, 6), (158, 0, 6), (159, 0, 8), (160, 0, 2), (161, 0, 6), (162, 0, 6), (163, 0, 8), (164, 0, 2), (165, 0, 6), (166, 0, 6), (167, 0, 8), (168, 0, 2), (169, 0, 6), (170, 0, 6), (171, 0, 8), (172, 0, 2), (173, 0, 6), (174, 0, 6), (175, 0, 8), (176, 0, 2), (177, 0, 6), (178, 0, 6), (179, 0, 8), (180, 0, 2), (181, 0, 6), (182, 0, 6), (183, 0, 8), (184, 0, 5), (185, 0, 31), (186, 0, 1), (186, 6, 7), (186, 10, 14), (186, 15, 16), (187, 0, 6), (188, 0, 30), (189, 0, 6), (190, 0, 6), (191, 0, 8), (192, 0, 8), (193, 0, 8), (194, 0, 8), (195, 0, 6), (196, 0, 2), (197, 0, 6), (198, 0, 6), (199, 0, 8), (200, 0, 1), (200, 6, 7), (200, 10, 14), (200, 15, 16), (201, 0, 6), (202, 0, 30), (203, 0, 6), (204, 0, 6), (205, 0, 8), (206, 0, 8), (207, 0, 8), (208, 0, 8), (209, 0, 6), (210, 0, 2), (211, 0, 6), (212, 0, 6), (213, 0, 8)]
def nm_mAll : nm_Rg := [(214, 0, 2), (214, 8, 9), (214, 11, 12), (214, 13, 22), (214, 23, 24), (214, 26, 27), (214, 29, 31), (214, 34, 35), (214, 38, 41), (214, 52, 57), (214, 58, 59), (215, 0, 7), (216, 0, 5510), (217, 0, 11020), (218, 0, 2), (219, 0, 450), (220, 0, 16), (221, 0, 400), (222, 0, 16), (223, 0, 400), (224, 0, 96), (225, 0, 400), (226, 0, 400), (227, 0, 400), (228, 0, 400), (232, 0, 13), (233, 0, 13), (234, 0, 400), (235, 0, 8), (236, 0, 6), (237, 0, 288), (238, 0, 36), (239, 0, 7), (240, 0, 6), (241, 0, 256), (242, 0, 8), (243, 0, 31), (245, 0, 96), (246, 0, 20)]
theorem nm_CI_fr {n s : Int} {f : nm_Rg} {M M' : am_M} {b : Int} {G : nm_G} (h : nm_CI M b G) (hL : nm_Lay M) (hb : b + 10 ∈ nm_WL) (hb2 : b + 9 < 247) (hF : nm_Fg n s f M M') (h1 : nm_dj f (nm_Sg b) = true) (h2 : nm_lo f = true) (h3 : nm_no f (b + 9) = true) (h4 : nm_dj f (nm_Wg (b + 10)) = true) : nm_CI M' b G := ⟨nm_CS_fr h.1 hL (by omega) hF h1, nm_CX_fr h.2.1 hb2 hL hF h2 h3, nm_CW_fr h.2.2 hL hb hF h4⟩
theorem nm_CP_fr {n s : Int} {f : nm_Rg} {M M' : am_M} {P : Int → Int} {L : Int} (h : nm_CP M P L) (hL : nm_Lay M) (hF : nm_Fg n s f M M') (h1 : nm_dj f [(30, 1, 2)] = true) (h2 : nm_no f 31 = true) : nm_CP M' P L := by
  refine ⟨?_, fun i a b => ?_⟩
  · rw [nm_gt_frd hF hL (by decide) h1 (by decide)]; exact h.1
  · rw [nm_gt_frn hF hL (by decide) h2]; exact h.2 i a b
/-- a frame that keeps the class's picture -/
def nm_cok (f : nm_Rg) : Bool := nm_lk f && (nm_lo f && (nm_dj f (nm_Sg 1) && (nm_no f 10 && (nm_dj f (nm_Wg 11) && (nm_no f 195 && (nm_no f 209 && (nm_no f 16 && (nm_dj f (nm_Sg 186) && (nm_dj f (nm_Wg 196) && (nm_dj f (nm_Sg 200) && (nm_dj f (nm_Wg 210) && (nm_dj f (nm_Ug 34) && (nm_no f 103 && (nm_dj f [(30, 1, 2)] && (nm_no f 31 && (nm_dj f nm_Rg1 && nm_dj f (nm_Wg 180)))))))))))))))))
theorem nm_C_fr {n s : Int} {f : nm_Rg} {M M' : am_M} {X : nm_X} (h : nm_C M X) (F : nm_Fg n s f M M') (hf : nm_cok f = true) : nm_C M' X := by
  unfold nm_cok at hf
  simp only [Bool.and_eq_true] at hf
  obtain ⟨f1, f2, f3, f4, f5, f6, f7, f8, f9, f10, f11, f12, f13, f14, f15, f16, f17, f18⟩ := hf
  obtain ⟨c1, c2, c3, c4, c5, c6, c7, c8, c9, c10, c11, c12⟩ := h
  have hL := c1.1
  refine ⟨nm_CA_fr c1 F f1 f3 f2 f4, nm_CW_fr c2 hL (by decide) F f5, nm_TX_fr c3 (by decide) hL F f4, nm_TX_fr c4 (by decide) hL F f6, nm_TX_fr c5 (by decide) hL F f7, ⟨?_, fun k => ?_⟩, ⟨?_, fun k => ?_⟩, nm_CU_fr (.inl rfl) c8 hL F f13, nm_CUp_fr c9 hL (by decide) F f14, nm_CP_fr c10 hL F f15 f16, nm_CR_fr c11 hL F f17, ?_⟩
  · rw [nm_gt_frn F hL (by decide) f8]; exact c6.1
  · exact nm_CI_fr (c6.2 k) hL (by decide) (by decide) F f9 f2 f6 f10
  · rw [nm_gt_frn F hL (by decide) f8]; exact c7.1
  · exact nm_CI_fr (c7.2 k) hL (by decide) (by decide) F f11 f2 f7 f12
  · rcases c12 with e | e
    · exact .inl e
    · exact .inr (nm_CW_fr e hL (by decide) F f18)
theorem nm_mAll_c : nm_cok nm_mAll = true := by decide +kernel
theorem nm_C_L {M : am_M} {X : nm_X} (h : nm_C M X) : nm_Lay M := h.1.1
/-- answers alone changed -/
theorem nm_C_R {M M' : am_M} {X : nm_X} {R : Int → Int} (h : nm_C M X) (F : nm_Fr nm_Rf M M') (r : nm_CR M' R) (e : R 10 = nx_R X 10) : nm_C M' (ns_R X R) := by
  obtain ⟨c1, c2, c3, c4, c5, c6, c7, c8, c9, c10, c11, c12⟩ := h
  have hL := c1.1
  refine ⟨nm_CA_fr c1 F (by decide +kernel) (by decide) (by decide) (by decide), nm_CW_fr c2 hL (by decide) F (by decide), nm_TX_fr c3 (by decide) hL F (by decide), nm_TX_fr c4 (by decide) hL F (by decide), nm_TX_fr c5 (by decide) hL F (by decide), ⟨?_, fun k => ?_⟩, ⟨?_, fun k => ?_⟩, nm_CU_fr (.inl rfl) c8 hL F (by decide +kernel), nm_CUp_fr c9 hL (by decide) F (by decide), nm_CP_fr c10 hL F (by decide) (by decide), r, ?_⟩
  · rw [nm_gt_frn F hL (by decide) (by decide)]; exact c6.1
  · exact nm_CI_fr (c6.2 k) hL (by decide) (by decide) F (by decide) (by decide) (by decide) (by decide)
  · rw [nm_gt_frn F hL (by decide) (by decide)]; exact c7.1
  · exact nm_CI_fr (c7.2 k) hL (by decide) (by decide) F (by decide) (by decide) (by decide) (by decide)
  · rcases c12 with e' | e'
    · exact .inl (e.trans e')
    · exact .inr (nm_CW_fr e' hL (by decide) F (by decide))
theorem nm_rf10 {R : Int → Int} {v : Int} (hv : v = -1 ∨ v = -2 ∨ v = -3 ∨ v = -5 ∨ v = -6) : nm_rf1 R v 10 = R 10 := by
  unfold nm_rf1; rw [if_neg (by decide), if_neg (by omega)]
theorem nmx_43 {d : Nat} {v : Int} {X : nm_X} {M : am_M} {Q : List am_V → am_M → Prop} (hv : v = -1 ∨ v = -2 ∨ v = -3 ∨ v = -5 ∨ v = -6) (hC : nm_C M X) (hQ : ∀ M', nm_Fr nm_Rf M M' → nm_C M' (nx_rf X v) → Q [(0, v)] M') : am_CL d 43 [(2, 0), (0, v)] M Q :=
  nmc_43 hv (nm_C_L hC) hC.2.2.2.2.2.2.2.2.2.2.1 (fun M' F r => hQ M' F (nm_C_R hC F r (nm_rf10 hv)))
theorem nmx_44 {d : Nat} {a : Int} {X : nm_X} {M : am_M} {Q : List am_V → am_M → Prop} (hC : nm_C M X) (hQ : ∀ M', nm_Fr nm_Rf M M' → nm_C M' (nx_fn X) → Q [(0, a)] M') : am_CL d 44 [(2, 0), (0, a)] M Q :=
  nmc_44 (nm_C_L hC) hC.2.2.2.2.2.2.2.2.2.2.1 (fun M' F r => hQ M' F (nm_C_R hC F r (nm_up_ne (by decide))))
theorem nmx_45 {d : Nat} {a : Int} {X : nm_X} {M : am_M} {Q : List am_V → am_M → Prop} (hd : 1 ≤ d) (hv : 0 ≤ a ∨ a = -1 ∨ a = -2 ∨ a = -3 ∨ a = -5 ∨ a = -6) (hC : nm_C M X) (hQ : ∀ M', nm_Fr nm_Rf M M' → nm_C M' (nx_tl X a) → Q [(0, a)] M') : am_CL d 45 [(2, 0), (0, a)] M Q :=
  nmc_45 hd hv (nm_C_L hC) hC.2.2.2.2.2.2.2.2.2.2.1 (fun M' F r => hQ M' F (nm_C_R hC F r (by
    unfold nm_tl1
    by_cases h : a < 0
    · rw [if_pos h]; exact nm_rf10 (by omega)
    · rw [if_neg h]; exact nm_up_ne (by decide))))
/-- what is sure of the numbers -/
def nm_okC (S : Int → Int) : Prop := (∀ i, 0 ≤ i → i < S 0 → S (71 + i) < 2 ^ (S 0).toNat) ∧ (∀ i j, 0 ≤ i → i < S 0 → 0 ≤ j → j < S 0 → nm_bit (S (71 + i)) j = nm_bit (S (71 + j)) i)
def nm_okG (G : nm_G) : Prop := nm_okS G.1 ∧ nm_okC G.1 ∧ nm_okW (G.1 0) G.2.1 ∧ G.2.1.1 ≤ 999
def nm_ok (X : nm_X) : Prop := nm_okG X.1 ∧ (∀ k, 0 ≤ k → k < 2 → nx_K X k = 0 ∨ (nx_K X k = 1 ∧ nm_okG (nx_I X k))) ∧ ((nx_U X).length ≤ 16 ∧ ∀ u ∈ nx_U X, 0 ≤ u.1 ∧ u.1 ≤ 3 ∧ nm_okW (nx_S X 0) u.2 ∧ u.2.1 ≤ 999) ∧ (0 ≤ nx_L X ∧ nx_L X ≤ 400 ∧ ∀ i, 0 ≤ i → i < nx_L X → 0 ≤ nx_P X i ∧ nx_P X i ≤ 255) ∧ (nx_R X 10 = -1 ∨ (0 ≤ nx_R X 10 ∧ nx_R X 10 ≤ 6 ∧ nm_okW (nx_R X 10) (nx_Y X)))
