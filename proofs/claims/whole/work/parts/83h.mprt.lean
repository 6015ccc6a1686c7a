/-! THE REFERENCE READS PARTS -/
def rd_0 : rd_F := fun _ => none
/-- it is wrong at p -/
def rm_bs (M : am_M) (p : Int) (l : rm_L) : Prop := nm_Lay M ∧ am_gt M 214 19 = 1 ∧ am_gt M 214 18 = p ∧ rm_pm M l ∧ am_gt M 214 29 = (l.length : Int) ∧ 0 ≤ am_gt M 214 23 ∧ am_gt M 214 23 + rm_w l ≤ 400 ∧ l.length ≤ 400
theorem rm_bs_of {M : am_M} {T : tk_T} {o i0 s s' n cl i p : Int} {l : rm_L} (hs : s' ≤ 400) (hst : rm_st M T o s n cl) (hP : rm_P M o i0 s' cl l i) : nm_Fr rm_xb M (am_st (am_st M 214 19 1) 214 18 p) ∧ rm_bs (am_st (am_st M 214 19 1) 214 18 p) p l := by
  obtain ⟨hL, hTP, hS, g20, g26, g23, g19, s0, s1, n0, n5, c0⟩ := hst
  obtain ⟨p1, p2, p3, p4, p5, p6, p7⟩ := hP
  have F : nm_Fr rm_xb M (am_st (am_st M 214 19 1) 214 18 p) := nm_Fr_st (nm_Fr_st (nm_Fg_refl _ _) (by decide)) (by decide)
  have g : ∀ k, k ≠ 18 → k ≠ 19 → am_gt (am_st (am_st M 214 19 1) 214 18 p) 214 k = am_gt M 214 k := fun k h1 h2 => by rw [nm_gt_st, if_neg (fun q => h1 q.2), nm_gt_st, if_neg (fun q => h2 q.2)]
  refine ⟨F, nm_Lay_fr hL F (by decide +kernel), by rw [nm_gt_st, if_neg (fun q => absurd q.2 (by decide)), nm_gt_st, if_pos ⟨rfl, rfl⟩], by rw [nm_gt_st, if_pos ⟨rfl, rfl⟩], rm_pm_f p1 (fun k _ => ⟨?_, ?_⟩), (g 29 (by decide) (by decide)).trans p2, ?_, ?_, by omega⟩
  · rw [nm_gt_st, if_neg (fun q => absurd q.1 (by decide)), nm_gt_st, if_neg (fun q => absurd q.1 (by decide))]
  · rw [nm_gt_st, if_neg (fun q => absurd q.1 (by decide)), nm_gt_st, if_neg (fun q => absurd q.1 (by decide))]
  · rw [g 23 (by decide) (by decide), g23]; exact c0
  · rw [g 23 (by decide) (by decide), g23]; omega
theorem rm_push {d : Nat} {T : tk_T} {o s n cl op at1 : Int} {l : rm_L} {f : rd_F} {M : am_M} {Q : List am_V → am_M → Prop} (hst : rm_st M T o s n cl) (hpm : rm_pm M l) (g29 : am_gt M 214 29 = (l.length : Int)) (hl : (l.length : Int) < 400) (hop : 20 ≤ op ∧ op ≤ 32) (hat : op = 29 ∨ op = 30 → 0 ≤ at1 ∧ at1 < 400)
    (hQ : ∀ M', nm_Fr rm_ug M M' → rm_st M' T o s n cl → rm_pm M' ((op, f) :: l) → am_gt M' 214 29 = (((op, f) :: l).length : Int) → am_gt M' 214 30 = am_gt M 214 30 → (∀ k, am_gt M' 225 k = am_gt M 225 k ∧ am_gt M' 226 k = am_gt M 226 k) → (∀ k, k < (l.length : Int) → am_gt M' 228 k = am_gt M 228 k) → am_gt M' 228 (l.length : Int) = at1 → Q [] M') : am_CL d 183 [(2, 214), (0, op), (0, at1)] M Q := by
  obtain ⟨hL, hTP, hS, g20, g26, g23, g19, rest⟩ := hst
  refine rm_183 hL g29 (by omega) hl (fun M' F a29 ak ao aa => ?_)
  have F' : nm_Fr rm_xg M M' := nm_Fr_sub F (by decide)
  have k4 : ∀ k, k ≠ 29 → am_gt M' 214 k = am_gt M 214 k := fun k hk => F.2.2.2.2 214 k (by have := hL.2.2.1; omega) (by
    rw [Bool.eq_false_iff]; intro hi
    obtain ⟨p, hp', e1, e2, e3⟩ := nm_in_iff.mp hi
    simp only [List.mem_cons, List.not_mem_nil, or_false] at hp'
    rcases hp' with rfl | rfl | rfl <;> simp only at e1 e2 e3 <;> omega)
  refine hQ M' F ⟨rm_lay hL F', rm_tp_f hL F' hTP, ⟨(k4 14 (by decide)).trans hS.1, (k4 15 (by decide)).trans hS.2.1, (k4 16 (by decide)).trans hS.2.2.1, (k4 17 (by decide)).trans hS.2.2.2⟩, (k4 20 (by decide)).trans g20, (k4 26 (by decide)).trans g26, (k4 23 (by decide)).trans g23, (k4 19 (by decide)).trans g19, rest⟩ ⟨ao, hop, fun h => by rw [aa]; exact hat h, rm_pm_f hpm (fun k hk => ak k (by omega))⟩ (by rw [a29]; simp) (k4 30 (by decide)) (fun k => ⟨nm_gt_frn F hL (by decide) (by decide), nm_gt_frn F hL (by decide) (by decide)⟩) (fun k hk => (ak k (by omega)).2) aa
/-- next -/
theorem rm_nx {d : Nat} {T : tk_T} {o i0 s n cl i : Int} {l : rm_L} {M : am_M} {Q : List am_V → am_M → Prop} (hd : 1 ≤ d) (hT : tk_ok T) (hst : rm_st M T o s n cl) (hP : ∀ s', s ≤ s' → s' = tk_e T s → rm_P M o i0 s' cl l i) (hQ : ∀ M', nm_Fr rm_sg M M' → rm_mv M M' i0 → rm_st M' T o (tk_e T s) n cl → rm_P M' o i0 (tk_e T s) cl l i → Q [] M') : am_CL d 176 [(2, 214)] M Q := by
  have he := tk_se hst.2.2.2.2.2.2.2.2.1
  have s0 := hst.2.2.2.2.2.2.2.1
  refine rm_176 hd hst.1 hT hst.2.1 hst.2.2.1.2.1 (by omega) he.2 (fun M' F hk => ?_)
  exact hQ M' F (rm_mv_n hst.1 F) (rm_st_n hst F hk (by omega) he.2) (rm_P_n hst.1 (hP _ he.1 rfl) F (Int.le_refl _))
theorem rm_190 {d : Nat} {T : tk_T} {o i0 s n cl op : Int} {l : rm_L} {M : am_M} {Q : List am_V → am_M → Prop} (hop : op = 31 ∨ op = 32) (hd : 3 ≤ d) (hT : tk_ok T) (hst : rm_st M T o s n cl) (hP : rm_P M o i0 s cl l cl) (adv : s < tk_e T s)
    (hy : rm_nb l < 8 → ∀ M', rm_mv M M' i0 → rm_st M' T o (tk_e T s) n cl → rm_P M' o i0 (tk_e T s) cl ((op, rd_0) :: l) cl → Q [] M')
    (hn : 8 ≤ rm_nb l → ∀ M', nm_Fr rm_xb M M' → rm_bs M' (tk_b T s) l → Q [] M') : am_CL d 190 [(2, 214), (0, op)] M Q := by
  have hst' := hst
  obtain ⟨hL, hTP, hS, g20, g26, g23, g19, s0, s1, n0, n5, c0⟩ := hst'
  have he := tk_se s1
  have t4 := hT.2.1
  refine h_190_0 hL ?_
  rw [hP.2.2.1]
  refine ⟨fun h => ⟨by omega, rm_179n hL hS g19 ?_⟩, fun h => ⟨by omega, rm_179y (by decide) (by omega) hL hT hTP hS s0 s1 g19 (fun M1 F1 hk => ?_)⟩⟩
  · obtain ⟨F, hb⟩ := rm_bs_of (p := tk_b T s) (by omega) hst hP
    exact h_190_18 hb.1 ⟨fun _ => h_190_41 hb.1 (hn h _ F hb), fun h2 => absurd (by rw [hb.2.1]; decide) h2⟩
  · have st1 := rm_st_n hst F1 hk (by omega) he.2
    have P1 := rm_P_n hL hP F1 he.1
    refine h_190_18 st1.1 ⟨fun h2 => absurd st1.2.2.2.2.2.2.1 h2, fun _ => ⟨by omega, ?_⟩⟩
    have g30 : am_gt M1 214 30 = rm_nb l := P1.2.2.1
    have nb0 : ∀ l : rm_L, 0 ≤ rm_nb l := by
      intro l
      induction l with
      | nil => exact Int.le_refl _
      | cons q r ih => simp only [rm_nb]; split <;> omega
    have := nb0 l
    rw [g30, am_w_id (by omega) (by omega)]
    have F2 : nm_Fr rm_xg M1 (am_st M1 214 30 (rm_nb l + 1)) := nm_Fr_st (nm_Fg_refl _ _) (by decide)
    have g : ∀ k, k ≠ 30 → am_gt (am_st M1 214 30 (rm_nb l + 1)) 214 k = am_gt M1 214 k := fun k hk => by rw [nm_gt_st, if_neg (fun q => hk q.2)]
    have ga : ∀ a k, a ≠ 214 → am_gt (am_st M1 214 30 (rm_nb l + 1)) a k = am_gt M1 a k := fun a k ha => by rw [nm_gt_st, if_neg (fun q => ha q.1)]
    obtain ⟨L1, T1, S1, a20, a26, a23, a19, r1⟩ := st1
    have st2 : rm_st (am_st M1 214 30 (rm_nb l + 1)) T o (tk_e T s) n cl := ⟨rm_lay L1 F2, rm_tp_f L1 F2 T1, ⟨(g 14 (by decide)).trans S1.1, (g 15 (by decide)).trans S1.2.1, (g 16 (by decide)).trans S1.2.2.1, (g 17 (by decide)).trans S1.2.2.2⟩, (g 20 (by decide)).trans a20, (g 26 (by decide)).trans a26, (g 23 (by decide)).trans a23, (g 19 (by decide)).trans a19, r1⟩
    obtain ⟨p1, p2, p3, p4, p5, p6, p7⟩ := P1
    have p6' := hP.2.2.2.2.2.1
    refine rm_push (l := l) (f := rd_0) st2 (rm_pm_f p1 (fun k _ => ⟨ga _ _ (by decide), ga _ _ (by decide)⟩)) ((g 29 (by decide)).trans p2) (by omega) (by omega) (fun h => by omega) (fun M3 F3 st3 pm3 a29 a30 ac a28 _ => h_190_41 st3.1 ?_)
    refine hy (by omega) M3 (rm_mv_t (rm_mv_n hL F1) ⟨nm_Fr_trans F2 (nm_Fr_sub F3 (by decide)), fun k _ _ => ⟨(ac k).1.trans (ga _ _ (by decide)), (ac k).2.trans (ga _ _ (by decide))⟩⟩) st3 ⟨pm3, a29, ?_, ?_, ?_, ?_, p7⟩
    · rw [a30, nm_gt_st, if_pos ⟨rfl, rfl⟩]; simp only [rm_nb]; rw [if_pos (by omega)]; omega
    · simp only [rm_cd]
      rw [if_neg (by omega), if_neg (by omega)]
      exact rm_cd_f p4 (fun k _ _ => ⟨(ac k).1.trans (ga _ _ (by decide)), (ac k).2.trans (ga _ _ (by decide))⟩) (fun k hk => (a28 k hk).trans (ga _ _ (by decide)))
    · simp only [rm_w]; rw [if_neg (by omega)]; omega
    · simp only [List.length_cons]; omega
/-- a step of code -/
theorem rm_em {d : Nat} {T : tk_T} {o i0 s n cl i op ar : Int} {l : rm_L} {M : am_M} {Q : List am_V → am_M → Prop} (hs4 : s ≤ 400) (hst : rm_st M T o s n cl) (hP : rm_P M o i0 s cl l i) (hi : i ≤ cl) (hcap : cl + 1 + rm_w l ≤ s)
    (hQ : ∀ M', nm_Fr rm_eg M M' → rm_mv M M' i0 → rm_st M' T o s n (cl + 1) → rm_P M' o i0 s (cl + 1) l i → (∀ k, k ≠ cl → am_gt M' 225 k = am_gt M 225 k ∧ am_gt M' 226 k = am_gt M 226 k) → am_gt M' 225 cl = op → am_gt M' 226 cl = ar → Q [] M') : am_CL d 182 [(2, 214), (0, op), (0, ar)] M Q := by
  obtain ⟨hL, hTP, hS, g20, g26, g23, g19, s0, s1, n0, n5, c0⟩ := hst
  obtain ⟨p1, p2, p3, p4, p5, p6, p7⟩ := hP
  have w0 := rm_w0 l
  have le4 := rm_cd_le p4
  refine rm_182 hL g23 c0 (by omega) (fun M' F a23 ak ao aa => ?_)
  have F' : nm_Fr rm_xg M M' := nm_Fr_sub F (by decide)
  have k4 : ∀ k, k ≠ 23 → am_gt M' 214 k = am_gt M 214 k := fun k hk => F.2.2.2.2 214 k (by have := hL.2.2.1; omega) (by
    rw [Bool.eq_false_iff]; intro hi
    obtain ⟨p, hp', e1, e2, e3⟩ := nm_in_iff.mp hi
    simp only [List.mem_cons, List.not_mem_nil, or_false] at hp'
    rcases hp' with rfl | rfl | rfl <;> simp only at e1 e2 e3 <;> omega)
  have kp : ∀ k, am_gt M' 227 k = am_gt M 227 k ∧ am_gt M' 228 k = am_gt M 228 k := fun k => ⟨nm_gt_frn F hL (by decide) (by decide), nm_gt_frn F hL (by decide) (by decide)⟩
  exact hQ M' F ⟨F', fun k a b => ak k (by omega)⟩ ⟨rm_lay hL F', rm_tp_f hL F' hTP, ⟨(k4 14 (by decide)).trans hS.1, (k4 15 (by decide)).trans hS.2.1, (k4 16 (by decide)).trans hS.2.2.1, (k4 17 (by decide)).trans hS.2.2.2⟩, (k4 20 (by decide)).trans g20, (k4 26 (by decide)).trans g26, a23, (k4 19 (by decide)).trans g19, s0, s1, n0, n5, by omega⟩ ⟨rm_pm_f p1 (fun k _ => kp k), (k4 29 (by decide)).trans p2, (k4 30 (by decide)).trans p3, rm_cd_f p4 (fun k a b => ak k (by omega)) (fun k _ => (kp k).2), by omega, p6, p7⟩ ak ao aa
theorem rm_191y {d : Nat} {T : tk_T} {o i0 s n cl op ar : Int} {l : rm_L} {M : am_M} {Q : List am_V → am_M → Prop} (hd : 3 ≤ d) (hT : tk_ok T) (hst : rm_st M T o s n cl) (hP : rm_P M o i0 s cl l cl) (adv : s < tk_e T s) (hn : n < 50)
    (hQ : ∀ M', rm_mv M M' i0 → rm_st M' T o (tk_e T s) (n + 1) (cl + 1) → rm_P M' o i0 (tk_e T s) (cl + 1) l cl → am_gt M' 225 cl = op → am_gt M' 226 cl = ar → Q [] M') : am_CL d 191 [(2, 214), (0, 1), (0, op), (0, ar)] M Q := by
  have hst' := hst
  obtain ⟨hL, hTP, hS, g20, g26, g23, g19, s0, s1, n0, n5, c0⟩ := hst'
  have he := tk_se s1
  have t4 := hT.2.1
  have p5 := hP.2.2.2.2.1
  refine h_191_0 hL ⟨fun h => absurd h (by decide), fun _ => ⟨fun h => absurd h (by rw [g26]; omega), fun _ => ⟨by omega, rm_179y (by decide) (by omega) hL hT hTP hS s0 s1 g19 (fun M1 F1 hk => ?_)⟩⟩⟩
  have st1 := rm_st_n hst F1 hk (by omega) he.2
  have P1 := rm_P_n hL hP F1 he.1
  refine h_191_22 st1.1 ⟨fun h2 => absurd st1.2.2.2.2.2.2.1 h2, fun _ => ⟨by omega, rm_em (by omega) st1 P1 (Int.le_refl _) (by omega) (fun M2 F2 mv2 st2 P2 ak ao aa => h_191_35 st2.1 ?_)⟩⟩
  obtain ⟨L2, T2, S2, a20, a26, a23, a19, r1, r2, r3, r4, r5⟩ := st2
  rw [a26, am_w_id (by omega) (by omega)]
  have F3 : nm_Fr rm_xg M2 (am_st M2 214 26 (n + 1)) := nm_Fr_st (nm_Fg_refl _ _) (by decide)
  have g : ∀ k, k ≠ 26 → am_gt (am_st M2 214 26 (n + 1)) 214 k = am_gt M2 214 k := fun k hk => by rw [nm_gt_st, if_neg (fun q => hk q.2)]
  have ga : ∀ a k, a ≠ 214 → am_gt (am_st M2 214 26 (n + 1)) a k = am_gt M2 a k := fun a k ha => by rw [nm_gt_st, if_neg (fun q => ha q.1)]
  obtain ⟨p1, p2, p3, p4, p5, p6, p7⟩ := P2
  refine hQ _ (rm_mv_t (rm_mv_t (rm_mv_n hL F1) mv2) ⟨F3, fun k _ _ => ⟨ga _ _ (by decide), ga _ _ (by decide)⟩⟩) ⟨rm_lay L2 F3, rm_tp_f L2 F3 T2, ⟨(g 14 (by decide)).trans S2.1, (g 15 (by decide)).trans S2.2.1, (g 16 (by decide)).trans S2.2.2.1, (g 17 (by decide)).trans S2.2.2.2⟩, (g 20 (by decide)).trans a20, by rw [nm_gt_st, if_pos ⟨rfl, rfl⟩], (g 23 (by decide)).trans a23, (g 19 (by decide)).trans a19, r1, r2, by omega, by omega, r5⟩ ⟨rm_pm_f p1 (fun k _ => ⟨ga _ _ (by decide), ga _ _ (by decide)⟩), (g 29 (by decide)).trans p2, (g 30 (by decide)).trans p3, rm_cd_f p4 (fun k _ _ => ⟨ga _ _ (by decide), ga _ _ (by decide)⟩) (fun k _ => ga _ _ (by decide)), p5, p6, p7⟩ ((ga _ _ (by decide)).trans ao) ((ga _ _ (by decide)).trans aa)
theorem rm_191n {d : Nat} {T : tk_T} {o i0 s n cl op ar b : Int} {l : rm_L} {M : am_M} {Q : List am_V → am_M → Prop} (hd : 3 ≤ d) (hT : tk_ok T) (hst : rm_st M T o s n cl) (hP : rm_P M o i0 s cl l cl) (hb : b = 0 ∨ 50 ≤ n)
    (hQ : ∀ M', nm_Fr rm_xb M M' → rm_bs M' (tk_b T s) l → Q [] M') : am_CL d 191 [(2, 214), (0, b), (0, op), (0, ar)] M Q := by
  have hst' := hst
  obtain ⟨hL, hTP, hS, g20, g26, g23, g19, s0, s1, n0, n5, c0⟩ := hst'
  have t4 := hT.2.1
  obtain ⟨F, hbs⟩ := rm_bs_of (p := tk_b T s) (by omega) hst hP
  have no : am_CL (d - 1) 179 [(2, 214), (0, 0)] M (fun r M' => am_WP d am_c191 22 [(2, 214), (0, b), (0, op), (0, ar)] (r ++ []) M' Q) := rm_179n hL hS g19 (h_191_22 hbs.1 ⟨fun _ => hQ _ F hbs, fun h2 => absurd (by rw [hbs.2.1]; decide) h2⟩)
  refine h_191_0 hL ⟨fun _ => ⟨by omega, no⟩, fun h => ⟨fun _ => ⟨by omega, no⟩, fun h2 => ?_⟩⟩
  rw [g26] at h2; omega
theorem rm_192 {d : Nat} {T : tk_T} {o i0 s n cl : Int} {l : rm_L} {M : am_M} {Q : List am_V → am_M → Prop} (hd : 5 ≤ d) (hT : tk_ok T) (ho : o = 0 ∨ o = 1) (hst : rm_st M T o s n cl) (hP : rm_P M o i0 s cl l cl)
    (hbr : tk_x T s = rd_tx 8 → rm_nb l < 8 → ∀ M', rm_mv M M' i0 → rm_st M' T o (tk_e T s) n cl → rm_P M' o i0 (tk_e T s) cl ((32, rd_0) :: l) cl → Q [(0, 1)] M')
    (hbn : tk_x T s = rd_tx 8 → 8 ≤ rm_nb l → ∀ M' t, nm_Fr rm_xb M M' → rm_bs M' (tk_b T s) l → Q [(0, t)] M')
    (hlf : tk_x T s ≠ rd_tx 8 → ∀ f s1 n1, rd_leaf T o s n = .ok (f, s1, n1) → ∀ M', rm_mv M M' i0 → rm_st M' T o s1 n1 (cl + 1) → rm_P M' o i0 s1 (cl + 1) l cl → rm_B M' o cl (cl + 1) f → Q [(0, 3)] M')
    (hln : tk_x T s ≠ rd_tx 8 → ∀ p, rd_leaf T o s n = .error p → ∀ M' t, nm_Fr rm_xb M M' → rm_bs M' p l → Q [(0, t)] M') : am_CL d 192 [(2, 214)] M Q := by
  have hst' := hst
  obtain ⟨hL, hTP, hS, g20, g26, g23, g19, s0, s1, n0, n5, c0⟩ := hst'
  have he := tk_se s1
  have t4 := hT.2.1
  refine h_192_0 hL ⟨by omega, rm_178 8 (by decide +kernel) hL hS s1 ?_⟩
  by_cases e8 : tk_x T s = rd_tx 8
  · rw [if_pos e8]
    refine h_192_6 hL ⟨fun h => absurd h (by decide), fun _ => ⟨by omega, rm_190 (.inr rfl) (by omega) hT hst hP (tk_advx 8 (by decide) s1 e8) (fun h M' mv st P => h_192_15 st.1 (hbr e8 h M' mv st P)) (fun h M' F hb => h_192_15 hb.1 (hbn e8 h M' 1 F hb))⟩⟩
  rw [if_neg e8]
  have hlf := hlf e8
  have hln := hln e8
  -- which word
  have main : ∀ its : Int, (rd_wd o (tk_x T s) = -1 ∧ its = -1) ∨ (its = rd_wd o (tk_x T s) + 1 ∧ 0 ≤ rd_wd o (tk_x T s) ∧ rd_wd o (tk_x T s) < 8 ∧ (o = 1 → rd_wd o (tk_x T s) ≤ 4)) ∨ (o = 1 ∧ rd_wd o (tk_x T s) = 10 ∧ its = 6) → am_WP d am_c192 35 [(2, 214), (9, 0), (9, 0), (9, 0)] [(0, its)] M Q := by
    intro its hits
    have no : ∀ (x2 b op ar : Int), (b = 0 ∨ 50 ≤ n) → rd_leaf T o s n = .error (tk_b T s) → am_CL (d - 1) 191 [(2, 214), (0, b), (0, op), (0, ar)] M (fun r M' => am_WP d am_c192 102 [(2, 214), (0, its), (0, x2), (9, 0)] (r ++ []) M' Q) := by
      intro x2 b op ar hb herr
      refine rm_191n (by omega) hT hst hP hb (fun M' F hbs => ?_)
      have q := hln _ herr M' 3 F hbs
      exact h_192_102 hbs.1 ⟨fun _ => q, fun _ => ⟨fun _ => q, fun _ => ⟨fun _ => q, fun h => absurd (by rw [hbs.2.1]; decide) h⟩⟩⟩
    have yes : ∀ (x2 op ar : Int), op = (if its = -1 then 0 else its) → (its ≠ -1 ∨ tk_n T s 0 1000) → (its = -1 → ar = tk_w T s) → am_CL (d - 1) 191 [(2, 214), (0, 1), (0, op), (0, ar)] M (fun r M' => am_WP d am_c192 102 [(2, 214), (0, its), (0, x2), (9, 0)] (r ++ []) M' Q) := by
      intro x2 op ar hop hc har
      by_cases hn : n < 50
      · have hcc : ¬ ((rd_wd o (tk_x T s) = -1 ∧ ¬ tk_n T s 0 1000) ∨ 50 ≤ n) := by
          rintro (⟨h1, h2⟩ | h)
          · rcases hc with h | h
            · omega
            · exact h2 h
          · omega
        have lf : rd_leaf T o s n = (if rd_wd o (tk_x T s) = -1 then .ok (fun _ => some (tk_w T s), tk_e T s, n + 1) else if o = 0 ∨ rd_wd o (tk_x T s) < 4 then .ok (fun e => some (e (rd_wd o (tk_x T s))), tk_e T s, n + 1) else if tk_n T (tk_e T s) 0 (if rd_wd o (tk_x T s) = 4 then 5 else 7) then .ok (fun e => some (e (rd_wd o (tk_x T s) + tk_w T (tk_e T s))), tk_e T (tk_e T s), n + 1) else .error (tk_b T (tk_e T s))) := by
          unfold rd_leaf; rw [if_neg hcc]
        have adv : s < tk_e T s := by
          rcases rd_wd_n o (tk_x T s) with hw | hw
          · rcases hc with h | h
            · omega
            · exact tk_adn (lo := 0) (hi := 1000) s1 h
          · exact tk_adv s1 hw.1
        refine rm_191y (by omega) hT hst hP adv hn (fun M1 mv1 st1 P1 a5 a6 => ?_)
        by_cases hw : rd_wd o (tk_x T s) = -1
        · have hi : its = -1 := by omega
          rw [if_pos hi] at hop
          have hnum : tk_n T s 0 1000 := by
            rcases hc with h | h
            · exact absurd hi h
            · exact h
          have q : Q [(0, 3)] M1 := by
            refine hlf _ _ _ (by rw [lf, if_pos hw]) M1 mv1 st1 P1 ?_
            unfold rm_B
            have := nm_mb_push (o := o) (cop := am_gt M1 225) (car := am_gt M1 226) (i := cl) (f := fun _ => some (tk_w T s)) 0 (tk_w T s) (a5.trans hop) (a6.trans (har hi)) (.inl ⟨rfl, hnum.2.1, hnum.2.2, rfl⟩)
            exact nm_MB_h this (by omega)
          exact h_192_102 st1.1 ⟨fun _ => q, fun _ => ⟨fun _ => q, fun h => absurd (by omega) h⟩⟩
        · have hi : its ≠ -1 := by omega
          rw [if_neg hi] at hop
          by_cases hsm : o = 0 ∨ rd_wd o (tk_x T s) < 4
          · have q : Q [(0, 3)] M1 := by
              refine hlf _ _ _ (by rw [lf, if_neg hw, if_pos hsm]) M1 mv1 st1 P1 ?_
              unfold rm_B
              have := nm_mb_push (o := o) (cop := am_gt M1 225) (car := am_gt M1 226) (i := cl) (f := fun e => some (e (rd_wd o (tk_x T s)))) its ar (a5.trans hop) a6 (.inr ⟨_, ?_, rfl⟩)
              · exact nm_MB_h this (by omega)
              · unfold nm_mlf
                rcases ho with h0 | h1
                · exact .inl ⟨h0, by omega, by omega, by omega⟩
                · exact .inr (.inl ⟨h1, by omega, by omega, by omega⟩)
            refine h_192_102 st1.1 ⟨fun _ => q, fun h => ⟨fun _ => q, fun h2 => ?_⟩⟩
            rw [st1.2.2.2.1] at h; omega
          · have ho1 : o = 1 := by omega
            have s1' := st1.2.2.2.2.2.2.2.2.1
            have he2 := tk_se s1'
            have c4 : cl < 400 := by have := P1.2.2.2.2.1; have := rm_w0 l; omega
            have hcl : am_w (am_gt M1 214 23 - 1) = cl := by rw [st1.2.2.2.2.2.1, am_w_id (by omega) (by omega)]; omega
            have num : ∀ hi : Int, hi = (if rd_wd o (tk_x T s) = 4 then 5 else 7) → am_CL (d - 1) 180 [(2, 214), (1, 0), (1, hi)] M1 (fun r M' => am_WP d am_c192 152 [(2, 214), (0, its), (0, x2), (0, cl)] (r ++ [(0, cl), (2, 226)]) M' Q) := by
              intro hi hhi
              by_cases hn2 : tk_n T (tk_e T s) 0 hi
              · refine rm_180y hn2 (by omega) st1.1 hT st1.2.1 st1.2.2.1 st1.2.2.2.2.2.2.2.1 s1' st1.2.2.2.2.2.2.1 (fun M2 F2 hk2 => ?_)
                have st2 := rm_st_n st1 F2 hk2 (by omega) he2.2
                have P2 := rm_P_n st1.1 P1 F2 he2.1
                refine h_192_152 st2.1 ⟨c0, c4, ?_⟩
                have F3 : nm_Fr rm_xg M2 (am_st M2 226 cl (tk_w T (tk_e T s))) := nm_Fst (nm_Fg_refl _ _) (lo := 0) (hi := 400) (by simp only [List.mem_cons, true_or, or_true]) c0 c4
                have g : ∀ a k, a ≠ 226 → am_gt (am_st M2 226 cl (tk_w T (tk_e T s))) a k = am_gt M2 a k := fun a k ha => by rw [nm_gt_st, if_neg (fun q => ha q.1)]
                have g6 : ∀ k, k ≠ cl → am_gt (am_st M2 226 cl (tk_w T (tk_e T s))) 226 k = am_gt M2 226 k := fun k hk => by rw [nm_gt_st, if_neg (fun q => hk q.2)]
                obtain ⟨L2, T2, S2, b20, b26, b23, b19, r1⟩ := st2
                obtain ⟨p1, p2, p3, p4, p5, p6, p7⟩ := P2
                have le4 := rm_cd_le p4
                refine hlf _ _ _ (by rw [lf, if_neg hw, if_neg hsm, if_pos (by rw [← hhi]; exact hn2)]) (am_st M2 226 cl (tk_w T (tk_e T s))) (rm_mv_t (rm_mv_t mv1 (rm_mv_n st1.1 F2)) ⟨F3, fun k x y => ⟨g _ _ (by decide), g6 k (by omega)⟩⟩) ⟨rm_lay L2 F3, rm_tp_f L2 F3 T2, ⟨(g _ _ (by decide)).trans S2.1, (g _ _ (by decide)).trans S2.2.1, (g _ _ (by decide)).trans S2.2.2.1, (g _ _ (by decide)).trans S2.2.2.2⟩, (g _ _ (by decide)).trans b20, (g _ _ (by decide)).trans b26, (g _ _ (by decide)).trans b23, (g _ _ (by decide)).trans b19, r1⟩ ⟨rm_pm_f p1 (fun k _ => ⟨g _ _ (by decide), g _ _ (by decide)⟩), (g _ _ (by decide)).trans p2, (g _ _ (by decide)).trans p3, rm_cd_f p4 (fun k x y => ⟨g _ _ (by decide), g6 k (by omega)⟩) (fun k _ => g _ _ (by decide)), p5, p6, p7⟩ ?_
                have a5' : am_gt (am_st M2 226 cl (tk_w T (tk_e T s))) 225 cl = its := (g _ _ (by decide)).trans ((nm_gt_frn F2 st1.1 (by decide) (by decide)).trans (a5.trans hop))
                have hb2 := hn2.2
                unfold rm_B
                have := nm_mb_push (o := o) (cop := am_gt (am_st M2 226 cl (tk_w T (tk_e T s))) 225) (car := am_gt (am_st M2 226 cl (tk_w T (tk_e T s))) 226) (i := cl) (f := fun e => some (e (rd_wd o (tk_x T s) + tk_w T (tk_e T s)))) its (tk_w T (tk_e T s)) a5' (by rw [nm_gt_st, if_pos ⟨rfl, rfl⟩]) (.inr ⟨_, ?_, rfl⟩)
                · exact nm_MB_h this (by omega)
                · unfold nm_mlf
                  rcases hits with h | h | h
                  · omega
                  · rw [if_pos (by omega)] at hhi
                    exact .inr (.inr (.inl ⟨ho1, by omega, by omega, by omega, by omega⟩))
                  · rw [if_neg (by omega)] at hhi
                    exact .inr (.inr (.inr ⟨ho1, by omega, by omega, by omega, by omega⟩))
              · obtain ⟨F, hb⟩ := rm_bs_of (p := tk_b T (tk_e T s)) (by omega) st1 P1
                refine rm_180n hn2 (by omega) st1.1 st1.2.2.1 st1.2.2.2.2.2.2.1 (fun v => h_192_152 hb.1 ⟨c0, c4, ?_⟩)
                generalize hM2 : am_st (am_st M1 214 19 1) 214 18 (tk_b T (tk_e T s)) = M2 at F hb ⊢
                have F3 : nm_Fr rm_xb M2 (am_st M2 226 cl v) := nm_Fst (nm_Fg_refl _ _) (lo := 0) (hi := 400) (by simp only [List.mem_cons, true_or, or_true]) c0 c4
                have g : ∀ a k, a ≠ 226 → am_gt (am_st M2 226 cl v) a k = am_gt M2 a k := fun a k ha => by rw [nm_gt_st, if_neg (fun q => ha q.1)]
                obtain ⟨q1, q2, q3, q4, q5, q6, q7, q8⟩ := hb
                exact hln _ (by rw [lf, if_neg hw, if_neg hsm, if_neg (by rw [← hhi]; exact hn2)]) _ 3 (nm_Fr_trans (nm_Fr_trans (nm_Fr_sub mv1.1 (by decide)) F) F3) ⟨nm_Lay_fr q1 F3 (by decide +kernel), (g _ _ (by decide)).trans q2, (g _ _ (by decide)).trans q3, rm_pm_f q4 (fun k _ => ⟨g _ _ (by decide), g _ _ (by decide)⟩), (g _ _ (by decide)).trans q5, by rw [g _ _ (by decide)]; exact q6, by rw [g _ _ (by decide)]; exact q7, q8⟩
            refine h_192_102 st1.1 ?_
            rw [hcl]
            refine ⟨fun h => absurd h (by rw [st1.2.2.2.1]; omega), fun _ => ⟨fun h => absurd h (by omega), fun _ => ⟨fun h => absurd st1.2.2.2.2.2.2.1 h, fun _ => ⟨fun h => ⟨by omega, num 7 (by rw [if_neg (by omega)])⟩, fun h => ⟨by omega, num 5 (by rw [if_pos (by omega)])⟩⟩⟩⟩⟩
      · exact no x2 1 op ar (.inr (by omega)) (by unfold rd_leaf; rw [if_pos (.inr (by omega))])
    have at59 : ¬ tk_n T s 0 1000 → am_WP d am_c192 59 [(2, 214), (0, its), (9, 0), (9, 0)] [] M Q := by
      intro hn
      refine h_192_59 hL ⟨fun h => ⟨fun _ => ⟨fun _ => ⟨by omega, ?_⟩, fun h2 => absurd rfl h2⟩, fun h2 => absurd h h2⟩, fun h => ⟨fun _ => ⟨fun h2 => absurd h2 h, fun _ => ⟨fun _ => ⟨by omega, ?_⟩, fun h2 => absurd rfl h2⟩⟩, fun h2 => absurd rfl h2⟩⟩
      · exact yes 0 its 0 (by rw [if_neg h]) (.inl h) (fun h2 => absurd h2 h)
      · refine no 0 0 0 0 (.inl rfl) ?_
        unfold rd_leaf; rw [if_pos (.inl ⟨by omega, hn⟩)]
    refine h_192_35 hL ?_
    rw [hS.2.2.1, hS.2.2.2, nm_lc3]
    refine ⟨fun h => at59 (fun q => h q.1), fun h => ⟨fun h2 => at59 (fun q => by have := q.2.2; omega), fun h2 => ?_⟩⟩
    have hk2 : tk_k T s = 2 := by omega
    have hw2 := tk_w2 s1 hk2
    have hnum : tk_n T s 0 1000 := ⟨hk2, by omega, by omega⟩
    rw [am_w_id (by omega) (by omega)]
    refine ⟨fun h3 => ⟨fun _ => ⟨fun h4 => absurd h4 (by decide), fun _ => ⟨by omega, yes 1 its _ (by rw [if_neg h3]) (.inl h3) (fun h5 => absurd h5 h3)⟩⟩, fun h4 => absurd h3 h4⟩, fun h3 => ⟨fun h4 => absurd h4 (by decide), fun _ => ⟨fun h4 => absurd h4 h3, fun _ => ⟨fun h4 => absurd h4 (by decide), fun _ => ⟨by omega, yes 1 0 _ (by rw [if_pos (by omega)]) (.inr hnum) (fun _ => rfl)⟩⟩⟩⟩⟩
  refine h_192_6 hL ⟨fun _ => ⟨fun h => ⟨by omega, rm_188 (by omega) hL hS s1 ?_⟩, fun h => ⟨by omega, rm_189 (by omega) hL hS s1 (h_192_28 hL ?_)⟩⟩, fun h => absurd rfl h⟩
  · rw [g20] at h
    refine main _ ?_
    have hw : rd_wd o (tk_x T s) = rd_lw (tk_x T s) := by unfold rd_wd; rw [if_pos h]
    rw [hw]
    rcases rd_at_lw (tk_x T s) with q | q | q | q | q | q | q | q | q
    · exact .inl q
    all_goals exact .inr (.inl ⟨by omega, by omega, by omega, fun _ => by omega⟩)
  · rw [g20] at h
    refine main _ ?_
    have hw : rd_wd o (tk_x T s) = rd_ow (tk_x T s) := by unfold rd_wd; rw [if_neg h]
    rw [hw]
    rcases rd_at_ow (tk_x T s) with q | q | q | q | q | q | q
    · exact .inl q
    · exact .inr (.inl ⟨by omega, by omega, by omega, fun _ => by omega⟩)
    · exact .inr (.inl ⟨by omega, by omega, by omega, fun _ => by omega⟩)
    · exact .inr (.inl ⟨by omega, by omega, by omega, fun _ => by omega⟩)
    · exact .inr (.inl ⟨by omega, by omega, by omega, fun _ => by omega⟩)
    · exact .inr (.inl ⟨by omega, by omega, by omega, fun _ => by omega⟩)
    · exact .inr (.inr ⟨by omega, by omega, by omega⟩)
theorem rm_193 {d : Nat} {T : tk_T} {o i0 s n cl : Int} {l : rm_L} {M : am_M} {Q : List am_V → am_M → Prop} (hd : 5 ≤ d) (hT : tk_ok T) (hst : rm_st M T o s n cl) (hP : rm_P M o i0 s cl l cl)
    (hnot : tk_x T s = rd_tx 30 → ∀ M', rm_mv M M' i0 → rm_st M' T o (tk_e T s) n cl → rm_P M' o i0 (tk_e T s) cl ((28, rd_0) :: l) cl → Q [(0, 0)] M')
    (hbr : tk_x T s = rd_tx 31 → rm_nb l < 8 → ∀ M', rm_mv M M' i0 → rm_st M' T o (tk_e T s) n cl → rm_P M' o i0 (tk_e T s) cl ((31, rd_0) :: l) cl → Q [(0, 0)] M')
    (hbn : tk_x T s = rd_tx 31 → 8 ≤ rm_nb l → ∀ M' t, nm_Fr rm_xb M M' → rm_bs M' (tk_b T s) l → Q [(0, t)] M')
    (hpt : tk_x T s ≠ rd_tx 30 → tk_x T s ≠ rd_tx 31 → ∀ R : List am_V → am_M → Prop, (∀ t M', nm_Lay M' → Q [(0, t)] M' → R [(0, t)] M') → am_CL (d - 1) 192 [(2, 214)] M R) : am_CL d 193 [(2, 214)] M Q := by
  have hst' := hst
  obtain ⟨hL, hTP, hS, g20, g26, g23, g19, s0, s1, n0, n5, c0⟩ := hst'
  have he := tk_se s1
  have t4 := hT.2.1
  refine h_193_0 hL ⟨by omega, rm_177 30 (by decide +kernel) hL hS s1 ?_⟩
  by_cases e30 : tk_x T s = rd_tx 30
  · rw [if_pos e30]
    have adv := tk_advx 30 (by decide) s1 e30
    obtain ⟨p1, p2, p3, p4, p5, p6, p7⟩ := hP
    refine h_193_7 hL ⟨fun h => absurd h (by decide), fun _ => ⟨by omega, rm_push (l := l) (f := rd_0) hst p1 p2 (by omega) (by decide) (fun h => by omega) (fun M1 F1 st1 pm1 a29 a30 ac a28 _ => ?_)⟩⟩
    refine h_193_17 st1.1 ⟨by omega, rm_nx (l := (28, rd_0) :: l) (i0 := i0) (i := cl) (by omega) hT st1 (fun s' h1 h2 => ⟨pm1, a29, ?_, ?_, ?_, ?_, p7⟩) (fun M2 F2 mv2 st2 P2 => h_193_21 st2.1 (hnot e30 M2 ?_ st2 P2))⟩
    · rw [a30, p3, rm_nb_k (by decide)]
    · simp only [rm_cd]
      rw [if_neg (by decide), if_neg (by decide)]
      exact rm_cd_f p4 (fun k _ _ => ac k) a28
    · simp only [rm_w]; rw [if_pos (by decide)]; omega
    · simp only [List.length_cons]; omega
    · exact rm_mv_t ⟨nm_Fr_sub F1 (by decide), fun k _ _ => ac k⟩ mv2
  rw [if_neg e30]
  refine h_193_7 hL ⟨fun _ => ⟨by omega, rm_178 31 (by decide +kernel) hL hS s1 ?_⟩, fun h => absurd rfl h⟩
  by_cases e31 : tk_x T s = rd_tx 31
  · rw [if_pos e31]
    refine h_193_29 hL ⟨fun h => absurd h (by decide), fun _ => ⟨by omega, rm_190 (.inl rfl) (by omega) hT hst hP (tk_advx 31 (by decide) s1 e31) (fun h M' mv st P => h_193_38 st.1 (hbr e31 h M' mv st P)) (fun h M' F hb => h_193_38 hb.1 (hbn e31 h M' 0 F hb))⟩⟩
  rw [if_neg e31]
  exact h_193_29 hL ⟨fun _ => ⟨by omega, hpt e30 e31 _ (fun t M' L' q => h_193_44 L' q)⟩, fun h => absurd rfl h⟩
