/-! LAW OF THE CLASS -/
def ns_D (X : nm_X) (S : Int → Int) (D : Int → nm_T) : nm_X := ((S, X.1.2.1, D), X.2)
def nm_upD (D : Int → nm_T) (k : Int) (T : nm_T) : Int → nm_T := fun j => if j = k then T else D j
def rd_tg : Option rd_F → rd_F
  | none => fun _ => some 1
  | some g => g
def rd_law (cs : List rd_C) : nm_T := cs.map (fun c => (c.1, nm_clf c.1 (rd_tg c.2.2.2.2) c.2.1))
def sp_13 (X : nm_X) : nm_X × Int := if 6 ≤ nx_S X 2 then (nx_rf (ns_L X 0) (-5), -5) else match rd_text (nx_P X, nx_L X) 0 with
  | .error p => (nx_rf (ns_R (ns_L X 0) (nm_up (nx_R X) 8 p)) (-6), -6)
  | .ok cs => (nx_fn (ns_R (ns_L (ns_D X (nm_up (nx_S X) 2 (nx_S X 2 + 1)) (nm_upD (nx_D X) (nx_S X 2) (rd_law cs))) 0) (nm_up (nx_R X) 8 (-1))), nx_S X 2)
theorem rd_law_len (cs : List rd_C) : (rd_law cs).length = cs.length := by unfold rd_law; rw [List.length_map]
theorem rd_law_at {cs : List rd_C} {k : Nat} (hk : k < cs.length) : (rd_law cs).getD k (0, fun _ => none) = ((cs.getD k rd_c0).1, nm_clf (cs.getD k rd_c0).1 (rd_tg (cs.getD k rd_c0).2.2.2.2) (cs.getD k rd_c0).2.1) := by
  unfold rd_law
  rw [List.getD_eq_getElem?_getD, List.getElem?_map, List.getD_eq_getElem?_getD, List.getElem?_eq_getElem hk]; rfl
theorem rc_T_CT {M : am_M} {t : Int} {cs : List rd_C} (h : rc_T M 0 t cs) : nm_CT M t (rd_law cs) := by
  obtain ⟨h1, h2, h3, h4, h5, h6, h7, h8, h9⟩ := h
  refine ⟨h1, h2, h3, by rw [rd_law_len]; exact h4, by rw [rd_law_len]; exact h5, h6, h7, by rw [rd_law_len]; exact h8, fun k hk => ?_⟩
  rw [rd_law_len] at hk
  obtain ⟨q0, q1, q2, q3, q4⟩ := h9 k hk
  refine ⟨(cs.getD k rd_c0).2.1, rd_tg (cs.getD k rd_c0).2.2.2.2, ?_, ?_, fun hne => ?_⟩
  · rw [rd_law_at hk, q0]
  · rcases q4 with ⟨a, b⟩ | ⟨g, a, b, c⟩
    · exact .inl ⟨b, by rw [a]; rfl⟩
    · exact .inr ⟨b, by rw [a]; exact c⟩
  · exact q1 (by rw [← q0]; exact hne)
/-- a frame that keeps the class's picture but for the tape -/
def nm_cokP (f : nm_Rg) : Bool := nm_lk f && (nm_lo f && (nm_dj f (nm_Sg 1) && (nm_no f 10 && (nm_dj f (nm_Wg 11) && (nm_no f 195 && (nm_no f 209 && (nm_no f 16 && (nm_dj f (nm_Sg 186) && (nm_dj f (nm_Wg 196) && (nm_dj f (nm_Sg 200) && (nm_dj f (nm_Wg 210) && (nm_dj f (nm_Ug 34) && (nm_no f 103 && (nm_dj f nm_Rg1 && nm_dj f (nm_Wg 180)))))))))))))))
theorem nm_C_P {n s : Int} {f : nm_Rg} {M M' : am_M} {X : nm_X} {P : Int → Int} {L : Int} (h : nm_C M X) (F : nm_Fg n s f M M') (hf : nm_cokP f = true) (hp : nm_CP M' P L) : nm_C M' (ns_P X P L) := by
  unfold nm_cokP at hf
  simp only [Bool.and_eq_true] at hf
  obtain ⟨f1, f2, f3, f4, f5, f6, f7, f8, f9, f10, f11, f12, f13, f14, f17, f18⟩ := hf
  obtain ⟨c1, c2, c3, c4, c5, c6, c7, c8, c9, c10, c11, c12⟩ := h
  have hL := c1.1
  refine ⟨nm_CA_fr c1 F f1 f3 f2 f4, nm_CW_fr c2 hL (by decide) F f5, nm_TX_fr c3 (by decide) hL F f4, nm_TX_fr c4 (by decide) hL F f6, nm_TX_fr c5 (by decide) hL F f7, ⟨?_, fun k => ?_⟩, ⟨?_, fun k => ?_⟩, nm_CU_fr (.inl rfl) c8 hL F f13, nm_CUp_fr c9 hL (by decide) F f14, hp, nm_CR_fr c11 hL F f17, ?_⟩
  · rw [nm_gt_frn F hL (by decide) f8]; exact c6.1
  · exact nm_CI_fr (c6.2 k) hL (by decide) (by decide) F f9 f2 f6 f10
  · rw [nm_gt_frn F hL (by decide) f8]; exact c7.1
  · exact nm_CI_fr (c7.2 k) hL (by decide) (by decide) F f11 f2 f7 f12
  · rcases c12 with e | e
    · exact .inl e
    · exact .inr (nm_CW_fr e hL (by decide) F f18)
theorem nm_C_R2 {M M' : am_M} {X : nm_X} {R : Int → Int} (h : nm_C M X) (F : nm_Fr nm_Rg1 M M') (r : nm_CR M' R) (e : R 10 = nx_R X 10) : nm_C M' (ns_R X R) := by
  obtain ⟨c1, c2, c3, c4, c5, c6, c7, c8, c9, c10, c11, c12⟩ := h
  have hL := c1.1
  refine ⟨nm_CA_fr c1 F (by decide +kernel) (by decide) (by decide) (by decide), nm_CW_fr c2 hL (by decide) F (by decide), nm_TX_fr c3 (by decide) hL F (by decide), nm_TX_fr c4 (by decide) hL F (by decide), nm_TX_fr c5 (by decide) hL F (by decide), ⟨?_, fun k => ?_⟩, ⟨?_, fun k => ?_⟩, nm_CU_fr (.inl rfl) c8 hL F (by decide +kernel), nm_CUp_fr c9 hL (by decide) F (by decide), nm_CP_fr c10 hL F (by decide) (by decide), r, ?_⟩
  · rw [nm_gt_frn F hL (by decide) (by decide)]; exact c6.1
  · exact nm_CI_fr (c6.2 k) hL (by decide) (by decide) F (by decide) (by decide) (by decide) (by decide)
  · rw [nm_gt_frn F hL (by decide) (by decide)]; exact c7.1
  · exact nm_CI_fr (c7.2 k) hL (by decide) (by decide) F (by decide) (by decide) (by decide) (by decide)
  · rcases c12 with e' | e'
    · exact .inl (e.trans e')
    · exact .inr (nm_CW_fr e' hL (by decide) F (by decide))
theorem nm_CR_8 {M : am_M} {R : Int → Int} {v : Int} (h : nm_CR M R) : nm_CR (am_st M 0 16 v) (nm_up R 8 v) := by
  obtain ⟨h1, h2, h3, h4, h5, h6, h7, h8, h9, h10⟩ := h
  refine ⟨?_, ?_, ?_, ?_, ?_, ?_, ?_, by rw [nm_st_eq, nm_up_eq], ?_, ?_⟩
  · rw [nm_st_nj (by decide), nm_up_ne (by decide)]; exact h1
  · rw [nm_st_ne (by decide), nm_up_ne (by decide)]; exact h2
  · rw [nm_st_ne (by decide), nm_up_ne (by decide)]; exact h3
  · rw [nm_st_ne (by decide), nm_up_ne (by decide)]; exact h4
  · rw [nm_st_ne (by decide), nm_up_ne (by decide)]; exact h5
  · rw [nm_st_ne (by decide), nm_up_ne (by decide)]; exact h6
  · rw [nm_st_nj (by decide), nm_up_ne (by decide)]; exact h7
  · rw [nm_st_nj (by decide), nm_up_ne (by decide)]; exact h9
  · rw [nm_st_nj (by decide), nm_up_ne (by decide)]; exact h10
theorem nm_CR_9 {M : am_M} {R : Int → Int} {v : Int} (h : nm_CR M R) : nm_CR (am_st M 0 17 v) (nm_up R 9 v) := by
  obtain ⟨h1, h2, h3, h4, h5, h6, h7, h8, h9, h10⟩ := h
  refine ⟨?_, ?_, ?_, ?_, ?_, ?_, ?_, ?_, by rw [nm_st_eq, nm_up_eq], ?_⟩
  · rw [nm_st_nj (by decide), nm_up_ne (by decide)]; exact h1
  · rw [nm_st_ne (by decide), nm_up_ne (by decide)]; exact h2
  · rw [nm_st_ne (by decide), nm_up_ne (by decide)]; exact h3
  · rw [nm_st_ne (by decide), nm_up_ne (by decide)]; exact h4
  · rw [nm_st_ne (by decide), nm_up_ne (by decide)]; exact h5
  · rw [nm_st_ne (by decide), nm_up_ne (by decide)]; exact h6
  · rw [nm_st_nj (by decide), nm_up_ne (by decide)]; exact h7
  · rw [nm_st_nj (by decide), nm_up_ne (by decide)]; exact h8
  · rw [nm_st_nj (by decide), nm_up_ne (by decide)]; exact h10
theorem nm_C_8 {M : am_M} {X : nm_X} {v : Int} (h : nm_C M X) : nm_C (am_st M 0 16 v) (ns_R X (nm_up (nx_R X) 8 v)) := nm_C_R2 h (nm_Fr_st (nm_Fg_refl _ _) (by decide)) (nm_CR_8 h.2.2.2.2.2.2.2.2.2.2.1) (nm_up_ne (by decide))
theorem nm_C_9 {M : am_M} {X : nm_X} {v : Int} (h : nm_C M X) : nm_C (am_st M 0 17 v) (ns_R X (nm_up (nx_R X) 9 v)) := nm_C_R2 h (nm_Fr_st (nm_Fg_refl _ _) (by decide)) (nm_CR_9 h.2.2.2.2.2.2.2.2.2.2.1) (nm_up_ne (by decide))
theorem nm_okS_law {S : Int → Int} (h : nm_okS S) (h6 : S 2 < 6) : nm_okS (nm_up S 2 (S 2 + 1)) := by
  obtain ⟨a1, a2, a3, a4, a5, a6, a7, a8, a9, a10, a11, a12, a13⟩ := h
  unfold nm_okS
  rw [nm_up_eq, nm_up_ne (k := 0) (by decide), nm_up_ne (k := 1) (by decide), nm_up_ne (k := 3) (by decide), nm_up_ne (k := 5) (by decide), nm_up_ne (k := 6) (by decide), nm_up_ne (k := 7) (by decide)]
  refine ⟨a1, a2, by omega, by omega, a5, a6, a7, fun m x y => ?_, fun m x y => ?_, fun m x y => ?_, fun m x y => ?_, fun m x y => ?_, fun m x y => ?_⟩
  · rw [nm_up_ne (by omega)]; exact a8 m x y
  · rw [nm_up_ne (by omega)]; exact a9 m x y
  · rw [nm_up_ne (by omega)]; exact a10 m x y
  · rw [nm_up_ne (by omega)]; exact a11 m x y
  · rw [nm_up_ne (by omega)]; exact a12 m x y
  · rw [nm_up_ne (by omega), nm_up_ne (by omega), nm_up_ne (by omega)]; exact a13 m x y
theorem nm_C_law {M : am_M} {X : nm_X} {t : Int} {T : nm_T} (h : nm_C M X) (h6 : nx_S X 2 < 6) (hT : nm_CT M t T) : nm_Fr [(1, 13, 14), (10, 0, 6)] M (am_st (am_st M 10 (nx_S X 2) t) 1 13 (nx_S X 2 + 1)) ∧ nm_C (am_st (am_st M 10 (nx_S X 2) t) 1 13 (nx_S X 2 + 1)) (ns_D X (nm_up (nx_S X) 2 (nx_S X 2 + 1)) (nm_upD (nx_D X) (nx_S X 2) T)) := by
  obtain ⟨c1, c2, c3, c4, c5, c6, c7, c8, c9, c10, c11, c12⟩ := h
  obtain ⟨hL, hS, hO, hX⟩ := c1
  have o2 := hO.2.2.1
  have F : nm_Fr [(1, 13, 14), (10, 0, 6)] M (am_st (am_st M 10 (nx_S X 2) t) 1 13 (nx_S X 2 + 1)) := nm_Fr_st (nm_Fst (nm_Fg_refl _ _) (lo := 0) (hi := 6) (by decide) o2.1 h6) (by decide)
  have L' := nm_Lay_fr hL F (by decide +kernel)
  have g10 : ∀ k, am_gt (am_st (am_st M 10 (nx_S X 2) t) 1 13 (nx_S X 2 + 1)) 10 k = if k = nx_S X 2 then t else am_gt M 10 k := fun k => by
    rw [nm_st_ne (by decide), nm_gt_st]
    by_cases hk : k = nx_S X 2
    · rw [if_pos ⟨rfl, hk⟩, if_pos hk]
    · rw [if_neg (fun q => hk q.2), if_neg hk]
  have S1 : nm_CS (am_st M 10 (nx_S X 2) t) 1 (nx_S X) := nm_CS_fr hS hL (by decide) (nm_Fst (nm_Fg_refl [(10, 0, 6)] M) (List.mem_singleton.mpr rfl) o2.1 h6) (by decide)
  have S2 := nm_CS_up (v := nx_S X 2 + 1) S1 (nm_c2 (b := 1))
  refine ⟨F, ⟨L', S2, nm_okS_law hO h6, fun k k0 k1 => ?_⟩, nm_CW_fr c2 hL (by decide) F (by decide), fun k k0 k1 => ?_, nm_TX_fr c4 (by decide) hL F (by decide), nm_TX_fr c5 (by decide) hL F (by decide), ⟨(nm_gt_frn F hL (by decide) (by decide)).trans c6.1, fun k => nm_CI_fr (c6.2 k) hL (by decide) (by decide) F (by decide +kernel) (by decide) (by decide) (by decide)⟩, ⟨(nm_gt_frn F hL (by decide) (by decide)).trans c7.1, fun k => nm_CI_fr (c7.2 k) hL (by decide) (by decide) F (by decide +kernel) (by decide) (by decide) (by decide)⟩, nm_CU_fr (.inl rfl) c8 hL F (by decide +kernel), nm_CUp_fr c9 hL (by decide) F (by decide), nm_CP_fr c10 hL F (by decide) (by decide), nm_CR_fr c11 hL F (by decide), ?_⟩
  · show nm_CT _ (am_gt _ 10 k) (nm_upD (nx_D X) (nx_S X 2) T k)
    have k1' : k < nm_up (nx_S X) 2 (nx_S X 2 + 1) 2 := k1
    rw [nm_up_eq] at k1'
    rw [g10]
    unfold nm_upD
    by_cases hk : k = nx_S X 2
    · rw [if_pos hk, if_pos hk]; exact nm_CT_fr hT F (by decide)
    · rw [if_neg hk, if_neg hk]; exact nm_CT_fr (hX k k0 (by omega)) F (by decide)
  · show am_gt _ 10 k = -1 ∨ _
    rw [show (1 : Int) + 9 = 10 from rfl, g10]
    by_cases hk : k = nx_S X 2
    · rw [if_pos hk]; exact .inr ⟨hT.1, hT.2.1, hT.2.2.1⟩
    · rw [if_neg hk]; exact c3 k k0 k1
  · rcases c12 with e | e
    · exact .inl e
    · exact .inr (nm_CW_fr e hL (by decide) F (by decide))
theorem nm_tkok {X : nm_X} (hok : nm_ok X) : tk_ok (nx_P X, nx_L X) := ⟨hok.2.2.2.1.1, hok.2.2.2.1.2.1, hok.2.2.2.1.2.2⟩
theorem nmp_13 {d : Nat} {X : nm_X} {M : am_M} {Q : List am_V → am_M → Prop} (hd : 40 ≤ d) (hC : nm_C M X) (hok : nm_ok X) (hQ : nm_KC (sp_13 X).1 [(0, (sp_13 X).2)] M Q) : am_CL d 13 [(2, 0)] M Q := by
  have hL := nm_C_L hC
  have s2 := nm_s2 hC.1.2.1
  have o2 := hC.1.2.2.1.2.2.1
  have hT := nm_tkok hok
  have hP : rc_tp M (nx_P X, nx_L X) := hC.2.2.2.2.2.2.2.2.2.1
  unfold sp_13 at hQ
  refine h_13_0 hL ?_
  rw [s2]
  refine ⟨fun h => ⟨by omega, ?_⟩, fun h => ⟨by omega, ?_⟩⟩
  · rw [if_neg (by omega)] at hQ
    refine rc_96 (o := 0) (by omega) hT (.inl rfl) (by decide) hL hP (fun p M1 hp F1 e1 e2 => ?_) (fun cs t M1 hp hne F1 e1 e2 hT1 => ?_)
    · rw [hp] at hQ
      have C1 : nm_C M1 (ns_L X 0) := nm_C_P (P := nx_P X) hC F1 (by decide +kernel) ⟨e1, fun i a b => by omega⟩
      refine h_13_35 (nm_C_L C1) ?_
      rw [e2]
      have C2 := nm_C_8 (v := p) C1
      refine h_13_47 (nm_C_L C2) ⟨fun h => absurd rfl h, fun _ => ⟨by omega, nmx_43 (by decide) C2 (fun M3 F3 C3 => h_13_57 (nm_C_L C3) (hQ M3 ?_ C3))⟩⟩
      refine nm_cFF (f := nm_cAll) (n := 0) (s := 0) (nm_Fr_st (nm_Fr_sub F1 (by decide +kernel)) (by decide +kernel)) F3 (by decide +kernel) (by decide) (by decide)
    · rw [hp] at hQ
      have C1 : nm_C M1 (ns_L X 0) := nm_C_P (P := nx_P X) hC F1 (by decide +kernel) ⟨e1, fun i a b => by omega⟩
      have CT1 := rc_T_CT hT1
      refine h_13_35 (nm_C_L C1) ?_
      rw [e2]
      have C2 := nm_C_8 (v := -1) C1
      have F8 : nm_Fr nm_Rg1 M1 (am_st M1 0 16 (-1)) := nm_Fr_st (nm_Fg_refl _ _) (by decide)
      have CT2 := nm_CT_fr CT1 F8 (by decide)
      have s2' : am_gt (am_st M1 0 16 (-1)) 1 13 = nx_S X 2 := nm_s2 C2.1.2.1
      have h6 : nx_S (ns_R (ns_L X 0) (nm_up (nx_R (ns_L X 0)) 8 (-1))) 2 < 6 := by show nx_S X 2 < 6; omega
      obtain ⟨F3, C3⟩ := nm_C_law C2 h6 CT2
      refine h_13_47 (nm_C_L C2) ?_
      rw [s2', am_w_id (by omega) (by omega)]
      refine ⟨fun _ => ⟨o2.1, by omega, .inr CT2.2.2.1, by omega, nmx_44 C3 (fun M4 F4 C4 => h_13_94 (nm_C_L C4) (hQ M4 ?_ C4))⟩, fun h => absurd h hne⟩
      have Fx : nm_Fg 3 600 nm_cAll M (am_st M1 0 16 (-1)) := nm_Fr_st (nm_Fg_sub F1 (by decide +kernel) (by decide) (by decide)) (by decide +kernel)
      have Fy : nm_Fg (3 + 0) (600 + 0) nm_cAll M _ := nm_Fg_trans Fx (nm_Fr_sub F3 (g := nm_cAll) (by decide +kernel))
      exact nm_cFF Fy F4 (by decide +kernel) (by decide) (by decide)
  · rw [if_pos (by omega)] at hQ
    have F1 : nm_Fr [(30, 1, 2)] M (am_st M 30 1 0) := nm_Fr_st (nm_Fg_refl _ _) (by decide)
    have C1 : nm_C (am_st M 30 1 0) (ns_L X 0) := nm_C_P (P := nx_P X) hC F1 (by decide +kernel) ⟨nm_st_eq, fun i a b => by omega⟩
    exact nmx_43 (by decide) C1 (fun M3 F3 C3 => h_13_26 (nm_C_L C3) (hQ M3 (nm_cFF F1 F3 (by decide +kernel) (by decide) (by decide)) C3))
theorem nm_ok_L0 {X : nm_X} (h : nm_ok X) : nm_ok (ns_L X 0) := ⟨h.1, h.2.1, h.2.2.1, ⟨by show (0 : Int) ≤ 0; decide, by show (0 : Int) ≤ 400; decide, fun i a b => by have b' : i < 0 := b; omega⟩, h.2.2.2.2⟩
theorem nm_ok_13 {X : nm_X} (h : nm_ok X) : nm_ok (sp_13 X).1 := by
  unfold sp_13
  by_cases h6 : 6 ≤ nx_S X 2
  · rw [if_pos h6]; exact nm_ok_rf (nm_ok_L0 h) (by decide)
  · rw [if_neg h6]
    cases rd_text (nx_P X, nx_L X) 0 with
    | error p => exact nm_ok_rf (nm_ok_R (nm_ok_L0 h) (nm_up_ne (by decide))) (by decide)
    | ok cs =>
      refine nm_ok_fn (nm_ok_R (nm_ok_L0 ?_) (nm_up_ne (by decide)))
      obtain ⟨g, i, u, l⟩ := h
      refine ⟨⟨nm_okS_law g.1 (by omega), nm_okC_eq g.2.1 g.1.1.2 (fun j hj => nm_up_ne (by omega)), ?_, g.2.2.2⟩, i, ⟨u.1, fun x hx => ?_⟩, l⟩
      · show nm_okW (nm_up (nx_S X) 2 (nx_S X 2 + 1) 0) _
        rw [nm_up_ne (by decide)]; exact g.2.2.1
      · show 0 ≤ x.1 ∧ x.1 ≤ 3 ∧ nm_okW (nm_up (nx_S X) 2 (nx_S X 2 + 1) 0) x.2 ∧ x.2.1 ≤ 999
        rw [nm_up_ne (by decide)]; exact u.2 x hx
