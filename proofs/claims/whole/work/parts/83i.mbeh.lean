/-! THE REFERENCE BEHIND SUMS AND TESTS -/
theorem rm_in_app : ∀ {p l : rm_L}, (∀ q ∈ p, q.1 ≤ 30) → rm_in (p ++ l) = rm_in l
  | [], _, _ => rfl
  | q :: r, l, h => by
    have := h q List.mem_cons_self
    simp only [List.cons_append, rm_in]
    rw [if_neg (by omega)]
    exact rm_in_app (fun q' hq' => h q' (List.mem_cons_of_mem _ hq'))
theorem rm_cp_app : ∀ {p l : rm_L}, (∀ q ∈ p, q.1 ≤ 24) → rm_cp (p ++ l) = rm_cp l
  | [], _, _ => rfl
  | q :: r, l, h => by
    have := h q List.mem_cons_self
    simp only [List.cons_append, rm_cp]
    rw [if_pos this]
    exact rm_cp_app (fun q' hq' => h q' (List.mem_cons_of_mem _ hq'))
theorem rm_settle {d : Nat} {T : tk_T} {o i0 s c n least cl i : Int} {pend ls : rm_L} {cur : rd_F} {M : am_M} {Q : List am_V → am_M → Prop} (hd : 1 ≤ d) (hl1 : 1 ≤ least) (hs4 : c ≤ 400) (ht : ∀ q r, ls = q :: r → rm_bd q.1 < least) (hp : ∀ q ∈ pend, least ≤ rm_bd q.1) (h01 : rm_s0 pend cur) (hst : rm_st M T o s n cl) (hP : rm_P M o i0 c cl (pend ++ ls) i) (hB : rm_B M o i cl cur) (hQ : ∀ M' cl' i', rm_mv M M' i0 → rm_st M' T o s n cl' → rm_P M' o i0 c cl' ls i' → rm_B M' o i' cl' (rm_fd pend cur) → Q [] M') : am_CL d 185 [(2, 214), (0, least)] M Q :=
  h_185_0 hst.1 (rm_185 hd hl1 hs4 ls ht pend M cl i cur hp h01 hst hP hB hQ)
/-- the bracket is taken off -/
theorem rm_pop {T : tk_T} {o i0 s n cl i op : Int} {f cur : rd_F} {ls : rm_L} {M : am_M} (hop : 31 ≤ op) (hs4 : s ≤ 400) (hst : rm_st M T o s n cl) (hP : rm_P M o i0 s cl ((op, f) :: ls) i) (hB : rm_B M o i cl cur) : rm_mv M (am_st (am_st M 214 29 (am_w (am_gt M 214 29 - 1))) 214 30 (am_w (am_gt M 214 30 - 1))) i0 ∧ rm_st (am_st (am_st M 214 29 (am_w (am_gt M 214 29 - 1))) 214 30 (am_w (am_gt M 214 30 - 1))) T o s n cl ∧ rm_P (am_st (am_st M 214 29 (am_w (am_gt M 214 29 - 1))) 214 30 (am_w (am_gt M 214 30 - 1))) o i0 s cl ls i ∧ rm_B (am_st (am_st M 214 29 (am_w (am_gt M 214 29 - 1))) 214 30 (am_w (am_gt M 214 30 - 1))) o i cl cur := by
  obtain ⟨hL, hTP, hS, g20, g26, g23, g19, s0, s1, n0, n5, c0⟩ := hst
  obtain ⟨p1, p2, p3, p4, p5, p6, p7⟩ := hP
  simp only [List.length_cons] at p2 p6
  have nb1 : ∀ l : rm_L, 0 ≤ rm_nb l ∧ rm_nb l ≤ (l.length : Int) := by
    intro l
    induction l with
    | nil => exact ⟨Int.le_refl _, Int.le_refl _⟩
    | cons q r ih => simp only [rm_nb, List.length_cons]; split <;> omega
  have := nb1 ls
  simp only [rm_nb] at p3
  rw [if_pos hop] at p3
  simp only [rm_w] at p5
  rw [if_neg (by omega)] at p5
  rw [p2, p3, am_w_id (x := ((ls.length + 1 : Nat) : Int) - 1) (by omega) (by omega), am_w_id (x := 1 + rm_nb ls - 1) (by omega) (by omega)]
  generalize hv : ((ls.length + 1 : Nat) : Int) - 1 = v
  generalize hw : 1 + rm_nb ls - 1 = w
  have F : nm_Fr rm_xg M (am_st (am_st M 214 29 v) 214 30 w) := nm_Fr_st (nm_Fr_st (nm_Fg_refl _ _) (by decide)) (by decide)
  have g : ∀ k, k ≠ 29 → k ≠ 30 → am_gt (am_st (am_st M 214 29 v) 214 30 w) 214 k = am_gt M 214 k := fun k h1 h2 => by rw [nm_gt_st, if_neg (fun q => h2 q.2), nm_gt_st, if_neg (fun q => h1 q.2)]
  have ga : ∀ a k, a ≠ 214 → am_gt (am_st (am_st M 214 29 v) 214 30 w) a k = am_gt M a k := fun a k ha => by rw [nm_gt_st, if_neg (fun q => ha q.1), nm_gt_st, if_neg (fun q => ha q.1)]
  simp only [rm_cd] at p4
  rw [if_neg (by omega), if_neg (by omega)] at p4
  refine ⟨⟨F, fun k _ _ => ⟨ga _ _ (by decide), ga _ _ (by decide)⟩⟩, ⟨rm_lay hL F, rm_tp_f hL F hTP, ⟨(g 14 (by decide) (by decide)).trans hS.1, (g 15 (by decide) (by decide)).trans hS.2.1, (g 16 (by decide) (by decide)).trans hS.2.2.1, (g 17 (by decide) (by decide)).trans hS.2.2.2⟩, (g 20 (by decide) (by decide)).trans g20, (g 26 (by decide) (by decide)).trans g26, (g 23 (by decide) (by decide)).trans g23, (g 19 (by decide) (by decide)).trans g19, s0, s1, n0, n5, c0⟩, ⟨rm_pm_f p1.2.2.2 (fun k _ => ⟨ga _ _ (by decide), ga _ _ (by decide)⟩), ?_, ?_, rm_cd_f p4 (fun k _ _ => ⟨ga _ _ (by decide), ga _ _ (by decide)⟩) (fun k _ => ga _ _ (by decide)), by omega, by omega, p7⟩, rm_B_c hB (fun k _ _ => ⟨ga _ _ (by decide), ga _ _ (by decide)⟩)⟩
  · rw [nm_gt_st, if_neg (fun q => absurd q.2 (by decide)), nm_gt_st, if_pos ⟨rfl, rfl⟩]; omega
  · rw [nm_gt_st, if_pos ⟨rfl, rfl⟩]; omega
theorem rm_194h {d : Nat} {T : tk_T} {o s n cl x1 : Int} {M : am_M} {Q : List am_V → am_M → Prop} (hd : 2 ≤ d) (hst : rm_st M T o s n cl)
    (hj : ∀ r, r = rd_jn (tk_x T s) + 14 → rd_jn (tk_x T s) ≠ -1 → am_CL (d - 1) 184 [(0, r)] M (fun r0 M' => am_WP d am_c194 82 [(2, 214), (0, x1), (0, r), (9, 0)] (r0 ++ [(2, 214)]) M' Q))
    (hn : rd_jn (tk_x T s) = -1 → am_CL (d - 1) 186 [(2, 214)] M (fun r M' => am_WP d am_c194 101 [(2, 214), (0, x1), (0, -1), (9, 0)] (r ++ []) M' Q)) : am_CL d 194 [(2, 214), (0, x1)] M Q := by
  obtain ⟨hL, hTP, hS, g20, g26, g23, g19, s0, s1, n0, n5, c0⟩ := hst
  refine h_194_0 hL ⟨by omega, rm_178 22 (by decide +kernel) hL hS s1 ?_⟩
  by_cases e0 : tk_x T s = rd_tx 22
  · rw [if_pos e0]
    exact h_194_6 hL ⟨fun h => absurd h (by decide), fun _ => ⟨fun h => absurd h (by decide), fun _ => ⟨by omega, hj 20 (by unfold rd_jn; rw [if_pos e0]; rfl) (by unfold rd_jn; rw [if_pos e0]; decide)⟩⟩⟩
  rw [if_neg e0]
  refine h_194_6 hL ⟨fun _ => ⟨by omega, rm_178 23 (by decide +kernel) hL hS s1 ?_⟩, fun h => absurd rfl h⟩
  by_cases e1 : tk_x T s = rd_tx 23
  · rw [if_pos e1]
    exact h_194_20 hL ⟨fun h => absurd h (by decide), fun _ => ⟨fun h => absurd h (by decide), fun _ => ⟨by omega, hj 21 (by unfold rd_jn; rw [if_neg e0, if_pos e1]; rfl) (by unfold rd_jn; rw [if_neg e0, if_pos e1]; decide)⟩⟩⟩
  rw [if_neg e1]
  refine h_194_20 hL ⟨fun _ => ⟨by omega, rm_178 24 (by decide +kernel) hL hS s1 ?_⟩, fun h => absurd rfl h⟩
  by_cases e2 : tk_x T s = rd_tx 24
  · rw [if_pos e2]
    exact h_194_34 hL ⟨fun h => absurd h (by decide), fun _ => ⟨fun h => absurd h (by decide), fun _ => ⟨by omega, hj 22 (by unfold rd_jn; rw [if_neg e0, if_neg e1, if_pos e2]; rfl) (by unfold rd_jn; rw [if_neg e0, if_neg e1, if_pos e2]; decide)⟩⟩⟩
  rw [if_neg e2]
  refine h_194_34 hL ⟨fun _ => ⟨by omega, rm_178 25 (by decide +kernel) hL hS s1 ?_⟩, fun h => absurd rfl h⟩
  by_cases e3 : tk_x T s = rd_tx 25
  · rw [if_pos e3]
    exact h_194_48 hL ⟨fun h => absurd h (by decide), fun _ => ⟨fun h => absurd h (by decide), fun _ => ⟨by omega, hj 23 (by unfold rd_jn; rw [if_neg e0, if_neg e1, if_neg e2, if_pos e3]; rfl) (by unfold rd_jn; rw [if_neg e0, if_neg e1, if_neg e2, if_pos e3]; decide)⟩⟩⟩
  rw [if_neg e3]
  refine h_194_48 hL ⟨fun _ => ⟨by omega, rm_178 26 (by decide +kernel) hL hS s1 ?_⟩, fun h => absurd rfl h⟩
  by_cases e4 : tk_x T s = rd_tx 26
  · rw [if_pos e4]
    exact h_194_62 hL ⟨fun h => absurd h (by decide), fun _ => ⟨fun h => absurd h (by decide), fun _ => ⟨by omega, hj 24 (by unfold rd_jn; rw [if_neg e0, if_neg e1, if_neg e2, if_neg e3, if_pos e4]; rfl) (by unfold rd_jn; rw [if_neg e0, if_neg e1, if_neg e2, if_neg e3, if_pos e4]; decide)⟩⟩⟩
  rw [if_neg e4]
  exact h_194_62 hL ⟨fun _ => ⟨fun _ => ⟨by omega, hn (by unfold rd_jn; rw [if_neg e0, if_neg e1, if_neg e2, if_neg e3, if_neg e4])⟩, fun h => absurd rfl h⟩, fun h => absurd rfl h⟩
/-- what was told, and an op behind it: the pile -/
theorem rm_P_op {T : tk_T} {o i0 s c s' n cl i op : Int} {f : rd_F} {ls : rm_L} {M M' : am_M} (hop : 20 ≤ op ∧ op ≤ 27) (hst : rm_st M T o s n cl) (hP : rm_P M o i0 c cl ls i) (hB : rm_B M o i cl f) (pm : rm_pm M' ((op, f) :: ls)) (a29 : am_gt M' 214 29 = (((op, f) :: ls).length : Int)) (a30 : am_gt M' 214 30 = am_gt M 214 30) (ac : ∀ k, am_gt M' 225 k = am_gt M 225 k ∧ am_gt M' 226 k = am_gt M 226 k) (a28 : ∀ k, k < (ls.length : Int) → am_gt M' 228 k = am_gt M 228 k) (hs : c < s') : rm_P M' o i0 s' cl ((op, f) :: ls) cl := by
  obtain ⟨p1, p2, p3, p4, p5, p6, p7⟩ := hP
  refine ⟨pm, a29, ?_, ?_, ?_, ?_, p7⟩
  · rw [a30, p3, rm_nb_k (by show op ≤ 30; omega)]
  · simp only [rm_cd]
    rw [if_pos (by omega)]
    exact ⟨i, rm_B_c hB (fun k _ _ => ac k), rm_cd_f p4 (fun k _ _ => ac k) a28⟩
  · simp only [rm_w]; rw [if_pos (by omega)]; omega
  · simp only [List.length_cons]; omega
theorem rm_194j {d : Nat} {T : tk_T} {o i0 s n cl i x1 : Int} {pend ls : rm_L} {cur : rd_F} {M : am_M} {Q : List am_V → am_M → Prop} (hd : 3 ≤ d) (hT : tk_ok T) (hst : rm_st M T o s n cl) (hP : rm_P M o i0 s cl (pend ++ ls) i) (hB : rm_B M o i cl cur) (hj : rd_jn (tk_x T s) ≠ -1) (hp : ∀ q ∈ pend, rm_bd (rd_jn (tk_x T s) + 14) ≤ rm_bd q.1) (h01 : rm_s0 pend cur) (ht : ∀ q r, ls = q :: r → rm_bd q.1 < rm_bd (rd_jn (tk_x T s) + 14))
    (hQ : ∀ M' cl', rm_mv M M' i0 → rm_st M' T o (tk_e T s) n cl' → rm_P M' o i0 (tk_e T s) cl' ((rd_jn (tk_x T s) + 14, rm_fd pend cur) :: ls) cl' → Q [(0, 1)] M') : am_CL d 194 [(2, 214), (0, x1)] M Q := by
  have t4 := hT.2.1
  have s1 := hst.2.2.2.2.2.2.2.2.1
  have he := tk_se s1
  obtain ⟨jx, j6, j10⟩ : tk_x T s ≠ [] ∧ 6 ≤ rd_jn (tk_x T s) ∧ rd_jn (tk_x T s) ≤ 10 := by
    rcases rd_jn_n (tk_x T s) with e | e
    · exact absurd e hj
    · exact e
  have adv := tk_adv s1 jx
  have hbd : 1 ≤ rm_bd (rd_jn (tk_x T s) + 14) := by
    unfold rm_bd; rw [if_neg (by omega), if_neg (by omega), if_neg (by omega), if_neg (by omega), if_neg (by omega)]; split <;> omega
  refine rm_194h (by omega) hst (fun r hr _ => ?_) (fun h => absurd h hj)
  rw [hr]
  refine rm_184 hst.1 (h_194_82 hst.1 ⟨by omega, rm_settle (by omega) hbd (by omega) ht hp h01 hst hP hB (fun M1 cl1 i1 mv1 st1 P1 B1 => ?_)⟩)
  have p6 := P1.2.2.2.2.2.1
  refine h_194_85 st1.1 ⟨by omega, rm_push (l := ls) (f := rm_fd pend cur) st1 P1.1 P1.2.1 (by omega) (by omega) (fun h => by omega) (fun M2 F2 st2 pm2 a29 a30 ac a28 _ => ?_)⟩
  refine h_194_91 st2.1 ⟨by omega, rm_nx (l := (rd_jn (tk_x T s) + 14, rm_fd pend cur) :: ls) (i0 := i0) (i := cl1) (by omega) hT st2 (fun s' h1 h2 => ?_) (fun M3 F3 mv3 st3 P3 => h_194_95 st3.1 (hQ M3 cl1 ?_ st3 P3))⟩
  · exact rm_P_op (by omega) st1 P1 B1 pm2 a29 a30 ac a28 (by omega)
  · exact rm_mv_t (rm_mv_t mv1 ⟨nm_Fr_sub F2 (by decide), fun k _ _ => ac k⟩) mv3
theorem rm_194s {d : Nat} {T : tk_T} {o i0 s n cl i x1 : Int} {pend ls : rm_L} {f0 cur : rd_F} {M : am_M} {Q : List am_V → am_M → Prop} (hd : 4 ≤ d) (hT : tk_ok T) (hst : rm_st M T o s n cl) (hP : rm_P M o i0 s cl (pend ++ (32, f0) :: ls) i) (hB : rm_B M o i cl cur) (hj : rd_jn (tk_x T s) = -1) (hp : ∀ q ∈ pend, 5 ≤ rm_bd q.1) (hp2 : ∀ q ∈ pend, q.1 ≤ 30) (h01 : rm_s0 pend cur)
    (hy : tk_x T s = rd_tx 9 → ∀ M' cl' i', rm_mv M M' i0 → rm_st M' T o (tk_e T s) n cl' → rm_P M' o i0 (tk_e T s) cl' ls i' → rm_B M' o i' cl' (rm_fd pend cur) → Q [(0, 3)] M')
    (hn : tk_x T s ≠ rd_tx 9 → ∀ M' t, nm_Fr rm_xb M M' → rm_bs M' (tk_b T s) (pend ++ (32, f0) :: ls) → Q [(0, t)] M') : am_CL d 194 [(2, 214), (0, x1)] M Q := by
  have t4 := hT.2.1
  have hst' := hst
  obtain ⟨hL, hTP, hS, g20, g26, g23, g19, s0, s1, n0, n5, c0⟩ := hst'
  have he := tk_se s1
  have p6 := hP.2.2.2.2.2.1
  refine rm_194h (by omega) hst (fun r hr h => absurd hj h) (fun _ => rm_186 hL hP.1 hP.2.1 (by omega) ?_)
  rw [rm_in_app hp2, show rm_in ((32, f0) :: ls) = 32 from rfl]
  refine h_194_101 hL ⟨fun h => absurd rfl h, fun _ => ⟨by omega, rm_178 9 (by decide +kernel) hL hS s1 (h_194_115 hL ⟨by omega, ?_⟩)⟩⟩
  by_cases e9 : tk_x T s = rd_tx 9
  · rw [if_pos e9]
    refine rm_179y (by decide) (by omega) hL hT hTP hS s0 s1 g19 (fun M1 F1 hk => ?_)
    have st1 := rm_st_n hst F1 hk (by omega) he.2
    have P1 := rm_P_n hL hP F1 he.1
    have B1 := rm_B_n hL hB F1
    refine h_194_118 st1.1 ⟨fun h => absurd st1.2.2.2.2.2.2.1 h, fun _ => ⟨by omega, rm_settle (by omega) (by decide) (by omega) (fun q r h => by cases h; show rm_bd 32 < 5; decide) hp h01 st1 P1 B1 (fun M2 cl2 i2 mv2 st2 P2 B2 => h_194_130 st2.1 ?_)⟩⟩
    obtain ⟨mv3, st3, P3, B3⟩ := rm_pop (by decide) (by omega) st2 P2 B2
    exact hy e9 _ cl2 i2 (rm_mv_t (rm_mv_t (rm_mv_n hL F1) mv2) mv3) st3 P3 B3
  · rw [if_neg e9]
    obtain ⟨F, hb⟩ := rm_bs_of (p := tk_b T s) (by omega) hst hP
    exact rm_179n hL hS g19 (h_194_118 hb.1 ⟨fun _ => hn e9 _ 3 F hb, fun h => absurd (by rw [hb.2.1]; decide) h⟩)
theorem rm_194o {d : Nat} {T : tk_T} {o i0 s n cl i x1 : Int} {l : rm_L} {M : am_M} {Q : List am_V → am_M → Prop} (hd : 2 ≤ d) (hT : tk_ok T) (hst : rm_st M T o s n cl) (hP : rm_P M o i0 s cl l i) (hj : rd_jn (tk_x T s) = -1) (hin : rm_in l = -1) (hx : x1 = 0) (hQ : Q [(0, 4)] M) : am_CL d 194 [(2, 214), (0, x1)] M Q := by
  have t4 := hT.2.1
  have s1 := hst.2.2.2.2.2.2.2.2.1
  have p6 := hP.2.2.2.2.2.1
  refine rm_194h (by omega) hst (fun r hr h => absurd hj h) (fun _ => rm_186 hst.1 hP.1 hP.2.1 (by omega) ?_)
  rw [hin]
  exact h_194_101 hst.1 ⟨fun _ => ⟨fun h => absurd rfl h, fun _ => ⟨fun h => absurd hx h, fun _ => hQ⟩⟩, fun h => absurd (by decide) h⟩
/-- in a test: compared already, or not -/
theorem rm_194x {d : Nat} {T : tk_T} {o i0 s n cl i x1 : Int} {l : rm_L} {M : am_M} {Q : List am_V → am_M → Prop} (hd : 3 ≤ d) (hT : tk_ok T) (hst : rm_st M T o s n cl) (hP : rm_P M o i0 s cl l i) (hj : rd_jn (tk_x T s) = -1) (hin : rm_in l ≠ 32) (hx : rm_in l = -1 → x1 ≠ 0) (hQ : ∀ x3, am_WP d am_c194 167 [(2, 214), (0, x1), (0, -1), (0, x3)] [(0, if rm_cp l = true then 1 else 0)] M Q) : am_CL d 194 [(2, 214), (0, x1)] M Q := by
  have t4 := hT.2.1
  have s1 := hst.2.2.2.2.2.2.2.2.1
  have p6 := hP.2.2.2.2.2.1
  refine rm_194h (by omega) hst (fun r hr h => absurd hj h) (fun _ => rm_186 hst.1 hP.1 hP.2.1 (by omega) ?_)
  have c : am_CL (d - 1) 187 [(2, 214)] M (fun r M' => am_WP d am_c194 167 [(2, 214), (0, x1), (0, -1), (0, rm_in l)] (r ++ []) M' Q) := rm_187 (by omega) hst.1 hP.1 hP.2.1 (by omega) (hQ _)
  exact h_194_101 hst.1 ⟨fun _ => ⟨fun _ => ⟨by omega, c⟩, fun h => ⟨fun _ => ⟨by omega, c⟩, fun h2 => absurd (hx (by omega)) h2⟩⟩, fun h => absurd hin h⟩
theorem rm_194t {d : Nat} {T : tk_T} {o i0 s n cl i x1 : Int} {l : rm_L} {M : am_M} {Q : List am_V → am_M → Prop} (hd : 3 ≤ d) (hT : tk_ok T) (hst : rm_st M T o s n cl) (hP : rm_P M o i0 s cl l i) (hj : rd_jn (tk_x T s) = -1) (hin : rm_in l ≠ 32) (hx : rm_in l = -1 → x1 ≠ 0) (hc : rm_cp l = true) (hQ : Q [(0, 2)] M) : am_CL d 194 [(2, 214), (0, x1)] M Q := by
  refine rm_194x hd hT hst hP hj hin hx (fun x3 => ?_)
  rw [if_pos hc]
  exact h_194_167 hst.1 ⟨fun h => absurd h (by decide), fun _ => hQ⟩
theorem rm_194c {d : Nat} {T : tk_T} {o i0 s n cl i x1 : Int} {pend ls : rm_L} {cur : rd_F} {M : am_M} {Q : List am_V → am_M → Prop} (hd : 4 ≤ d) (hT : tk_ok T) (hst : rm_st M T o s n cl) (hP : rm_P M o i0 s cl (pend ++ ls) i) (hB : rm_B M o i cl cur) (hj : rd_jn (tk_x T s) = -1) (hin : rm_in (pend ++ ls) ≠ 32) (hx : rm_in (pend ++ ls) = -1 → x1 ≠ 0) (hc : rm_cp (pend ++ ls) = false) (hp : ∀ q ∈ pend, 5 ≤ rm_bd q.1) (h01 : rm_s0 pend cur) (ht : ∀ q r, ls = q :: r → rm_bd q.1 < 5)
    (hy : rd_cm (tk_x T s) ≠ -1 → ∀ M' cl', rm_mv M M' i0 → rm_st M' T o (tk_e T s) n cl' → rm_P M' o i0 (tk_e T s) cl' ((rd_cm (tk_x T s) + 14, rm_fd pend cur) :: ls) cl' → Q [(0, 1)] M')
    (hn : rd_cm (tk_x T s) = -1 → ∀ M' t, nm_Fr rm_xb M M' → rm_bs M' (tk_b T s) (pend ++ ls) → Q [(0, t)] M') : am_CL d 194 [(2, 214), (0, x1)] M Q := by
  have t4 := hT.2.1
  have hst' := hst
  obtain ⟨hL, hTP, hS, g20, g26, g23, g19, s0, s1, n0, n5, c0⟩ := hst'
  have he := tk_se s1
  refine rm_194x (by omega) hT hst hP hj hin hx (fun x3 => ?_)
  rw [if_neg (by rw [hc]; decide)]
  have yes : ∀ op, op = rd_cm (tk_x T s) + 14 → rd_cm (tk_x T s) ≠ -1 → am_CL (d - 1) 179 [(2, 214), (0, 1)] M (fun r M' => am_WP d am_c194 227 [(2, 214), (0, x1), (0, op), (0, x3)] (r ++ []) M' Q) := by
    intro op hop hcm
    obtain ⟨cx, c11, c13⟩ : tk_x T s ≠ [] ∧ 11 ≤ rd_cm (tk_x T s) ∧ rd_cm (tk_x T s) ≤ 13 := by
      rcases rd_cm_n (tk_x T s) with e | e
      · exact absurd e hcm
      · exact e
    have adv := tk_adv s1 cx
    refine rm_179y (by decide) (by omega) hL hT hTP hS s0 s1 g19 (fun M1 F1 hk => ?_)
    have st1 := rm_st_n hst F1 hk (by omega) he.2
    -- the room is counted before the sign
    have P1 : rm_P M1 o i0 s cl (pend ++ ls) i := rm_P_n hL hP F1 (Int.le_refl _)
    have B1 := rm_B_n hL hB F1
    refine h_194_227 st1.1 ⟨fun h => absurd st1.2.2.2.2.2.2.1 h, fun _ => ⟨by omega, rm_settle (by omega) (by decide) (by omega) ht hp h01 st1 P1 B1 (fun M2 cl2 i2 mv2 st2 P2 B2 => ?_)⟩⟩
    have p6 := P2.2.2.2.2.2.1
    refine h_194_239 st2.1 ⟨by omega, rm_push (l := ls) (f := rm_fd pend cur) st2 P2.1 P2.2.1 (by omega) (by omega) (fun h => by omega) (fun M3 F3 st3 pm3 a29 a30 ac a28 _ => h_194_245 st3.1 ?_)⟩
    rw [hop] at pm3 a29
    exact hy hcm M3 cl2 (rm_mv_t (rm_mv_t (rm_mv_n hL F1) mv2) ⟨nm_Fr_sub F3 (by decide), fun k _ _ => ac k⟩) st3 (rm_P_op (by omega) st2 P2 B2 pm3 a29 a30 ac a28 adv)
  refine h_194_167 hL ⟨fun _ => ⟨by omega, rm_178 33 (by decide +kernel) hL hS s1 ?_⟩, fun h => absurd rfl h⟩
  by_cases e0 : tk_x T s = rd_tx 33
  · rw [if_pos e0]
    exact h_194_178 hL ⟨fun h => absurd h (by decide), fun _ => ⟨fun _ => ⟨by omega, yes 25 (by unfold rd_cm; rw [if_pos e0]; rfl) (by unfold rd_cm; rw [if_pos e0]; decide)⟩, fun h => absurd (by decide) h⟩⟩
  rw [if_neg e0]
  refine h_194_178 hL ⟨fun _ => ⟨by omega, rm_178 34 (by decide +kernel) hL hS s1 ?_⟩, fun h => absurd rfl h⟩
  by_cases e1 : tk_x T s = rd_tx 34
  · rw [if_pos e1]
    exact h_194_192 hL ⟨fun h => absurd h (by decide), fun _ => ⟨fun _ => ⟨by omega, yes 26 (by unfold rd_cm; rw [if_neg e0, if_pos e1]; rfl) (by unfold rd_cm; rw [if_neg e0, if_pos e1]; decide)⟩, fun h => absurd (by decide) h⟩⟩
  rw [if_neg e1]
  refine h_194_192 hL ⟨fun _ => ⟨fun h => absurd rfl h, fun _ => ⟨by omega, rm_178 35 (by decide +kernel) hL hS s1 ?_⟩⟩, fun h => absurd rfl h⟩
  by_cases e2 : tk_x T s = rd_tx 35
  · rw [if_pos e2]
    exact h_194_216 hL ⟨fun h => absurd h (by decide), fun _ => ⟨by omega, yes 27 (by unfold rd_cm; rw [if_neg e0, if_neg e1, if_pos e2]; rfl) (by unfold rd_cm; rw [if_neg e0, if_neg e1, if_pos e2]; decide)⟩⟩
  rw [if_neg e2]
  obtain ⟨F, hb⟩ := rm_bs_of (p := tk_b T s) (by omega) hst hP
  exact h_194_216 hL ⟨fun _ => ⟨by omega, rm_179n hL hS g19 (h_194_227 hb.1 ⟨fun _ => h_194_245 hb.1 (hn (by unfold rd_cm; rw [if_neg e0, if_neg e1, if_neg e2]) _ 1 F hb), fun h => absurd (by rw [hb.2.1]; decide) h⟩)⟩, fun h => absurd rfl h⟩
theorem rm_195a {d : Nat} {T : tk_T} {o i0 s n cl i op least : Int} {k : Nat} {pend ls : rm_L} {cur : rd_F} {M : am_M} {Q : List am_V → am_M → Prop} (hk : (k = 36 ∧ op = 29 ∧ least = 2) ∨ (k = 37 ∧ op = 30 ∧ least = 1)) (hd : 3 ≤ d) (hT : tk_ok T) (hst : rm_st M T o s n cl) (hP : rm_P M o i0 s cl (pend ++ ls) i) (hB : rm_B M o i cl cur) (hx : tk_x T s = rd_tx k) (hp : ∀ q ∈ pend, least ≤ rm_bd q.1) (h01 : rm_s0 pend cur) (ht : ∀ q r, ls = q :: r → rm_bd q.1 < least)
    (hQ : ∀ M' cl', rm_mv M M' i0 → rm_st M' T o (tk_e T s) n cl' → rm_P M' o i0 (tk_e T s) cl' ((op, rm_fd pend cur) :: ls) cl' → Q [(0, 0)] M') : am_CL d 195 [(2, 214)] M Q := by
  have t4 := hT.2.1
  have hst' := hst
  obtain ⟨hL, hTP, hS, g20, g26, g23, g19, s0, s1, n0, n5, c0⟩ := hst'
  have he := tk_se s1
  have adv := tk_advx k (by omega) s1 hx
  -- push, emit, next
  have tail : ∀ (M1 : am_M) (cl1 i1 x1 : Int), ((x1 = 0 ∧ op = 30) ∨ (x1 = 1 ∧ op = 29)) → rm_mv M M1 i0 → rm_st M1 T o s n cl1 → rm_P M1 o i0 s cl1 ls i1 → rm_B M1 o i1 cl1 (rm_fd pend cur) → am_WP d am_c195 35 [(2, 214), (0, x1)] [] M1 Q := by
    intro M1 cl1 i1 x1 hx1 mv1 st1 P1 B1
    obtain ⟨p1, p2, p3, p4, p5, p6, p7⟩ := P1
    have w0 := rm_w0 ls
    have ltB := rm_B_lt B1
    have le4 := rm_cd_le p4
    have a23 := st1.2.2.2.2.2.1
    have psh : am_CL (d - 1) 183 [(2, 214), (0, op), (0, cl1)] M1 (fun r M' => am_WP d am_c195 54 [(2, 214), (0, x1)] (r ++ []) M' Q) := by
      refine rm_push (l := ls) (f := rm_fd pend cur) st1 p1 p2 (by omega) (by omega) (fun _ => ⟨by omega, by omega⟩) (fun M2 F2 st2 pm2 b29 b30 bc b28 b28' => ?_)
      have em : am_CL (d - 1) 182 [(2, 214), (0, op), (0, 0)] M2 (fun r M' => am_WP d am_c195 70 [(2, 214), (0, x1)] (r ++ []) M' Q) := by
        obtain ⟨L2, T2, S2, c20, c26, c23, c19, r1, r2, r3, r4, r5⟩ := st2
        refine rm_182 L2 c23 (by omega) (by omega) (fun M3 F3 e23 ek eo ea => ?_)
        have F3' : nm_Fr rm_xg M2 M3 := nm_Fr_sub F3 (by decide)
        have k4 : ∀ k, k ≠ 23 → am_gt M3 214 k = am_gt M2 214 k := fun k hk => F3.2.2.2.2 214 k (by have := L2.2.2.1; omega) (by
          rw [Bool.eq_false_iff]; intro hi
          obtain ⟨p, hp', e1, e2, e3⟩ := nm_in_iff.mp hi
          simp only [List.mem_cons, List.not_mem_nil, or_false] at hp'
          rcases hp' with rfl | rfl | rfl <;> simp only at e1 e2 e3 <;> omega)
        have kp : ∀ k, am_gt M3 227 k = am_gt M2 227 k ∧ am_gt M3 228 k = am_gt M2 228 k := fun k => ⟨nm_gt_frn F3 L2 (by decide) (by decide), nm_gt_frn F3 L2 (by decide) (by decide)⟩
        have st3 : rm_st M3 T o s n (cl1 + 1) := ⟨rm_lay L2 F3', rm_tp_f L2 F3' T2, ⟨(k4 14 (by decide)).trans S2.1, (k4 15 (by decide)).trans S2.2.1, (k4 16 (by decide)).trans S2.2.2.1, (k4 17 (by decide)).trans S2.2.2.2⟩, (k4 20 (by decide)).trans c20, (k4 26 (by decide)).trans c26, e23, (k4 19 (by decide)).trans c19, r1, r2, r3, r4, by omega⟩
        have kc : ∀ k, k < cl1 → am_gt M3 225 k = am_gt M1 225 k ∧ am_gt M3 226 k = am_gt M1 226 k := fun k hk => ⟨(ek k (by omega)).1.trans (bc k).1, (ek k (by omega)).2.trans (bc k).2⟩
        refine h_195_70 st3.1 ⟨by omega, rm_nx (l := (op, rm_fd pend cur) :: ls) (i0 := i0) (i := cl1 + 1) (by omega) hT st3 (fun s' h1 h2 => ⟨rm_pm_f pm2 (fun k _ => kp k), (k4 29 (by decide)).trans b29, ?_, ?_, ?_, ?_, p7⟩) (fun M4 F4 mv4 st4 P4 => h_195_74 st4.1 (hQ M4 (cl1 + 1) ?_ st4 P4))⟩
        · rw [k4 30 (by decide), b30, p3, rm_nb_k (by show op ≤ 30; omega)]
        · simp only [rm_cd]
          rw [if_neg (by omega), if_pos (by omega)]
          have ec : cl1 + 1 - 1 = cl1 := by omega
          rw [ec]
          exact ⟨i1, rm_B_c B1 (fun k _ y => kc k y), eo, (kp _).2.trans b28', rm_cd_f p4 (fun k _ y => kc k (by omega)) (fun k hk => (kp k).2.trans (b28 k hk))⟩
        · simp only [rm_w]; rw [if_neg (by omega)]; omega
        · simp only [List.length_cons]; omega
        · exact rm_mv_t (rm_mv_t mv1 ⟨nm_Fr_trans (nm_Fr_sub F2 (by decide)) F3', fun k _ y => kc k (by omega)⟩) mv4
      refine h_195_54 st2.1 ⟨fun h => ?_, fun h => ?_⟩
      · have : op = 30 := by omega
        subst this; exact ⟨by omega, em⟩
      · have : op = 29 := by omega
        subst this; exact ⟨by omega, em⟩
    refine h_195_35 st1.1 ?_
    rw [a23]
    refine ⟨fun h => ?_, fun h => ?_⟩
    · have : op = 30 := by omega
      subst this; exact ⟨by omega, psh⟩
    · have : op = 29 := by omega
      subst this; exact ⟨by omega, psh⟩
  have ne : rd_tx 36 ≠ rd_tx 37 := by decide +kernel
  refine h_195_0 hL ⟨by omega, rm_177 36 (by decide +kernel) hL hS s1 ?_⟩
  rcases hk with ⟨rfl, rfl, rfl⟩ | ⟨rfl, rfl, rfl⟩
  · rw [if_pos hx]
    exact h_195_7 hL ⟨fun _ => ⟨fun h => absurd h (by decide), fun _ => ⟨by omega, rm_settle (by omega) (by decide) (by omega) ht hp h01 hst hP hB (fun M1 cl1 i1 mv1 st1 P1 B1 => tail M1 cl1 i1 1 (.inr ⟨rfl, rfl⟩) mv1 st1 P1 B1)⟩⟩, fun h => absurd (by decide) h⟩
  · rw [if_neg (fun h => ne (h.symm.trans hx))]
    refine h_195_7 hL ⟨fun h => absurd rfl h, fun _ => ⟨by omega, rm_177 37 (by decide +kernel) hL hS s1 ?_⟩⟩
    rw [if_pos hx]
    exact h_195_19 hL ⟨fun h => absurd h (by decide), fun _ => ⟨fun _ => ⟨by omega, rm_settle (by omega) (by decide) (by omega) ht hp h01 hst hP hB (fun M1 cl1 i1 mv1 st1 P1 B1 => tail M1 cl1 i1 0 (.inl ⟨rfl, rfl⟩) mv1 st1 P1 B1)⟩, fun h => absurd rfl h⟩⟩
theorem rm_195h {d : Nat} {T : tk_T} {o i0 s n cl i : Int} {l : rm_L} {M : am_M} {Q : List am_V → am_M → Prop} (hd : 2 ≤ d) (hT : tk_ok T) (hst : rm_st M T o s n cl) (hP : rm_P M o i0 s cl l i) (h36 : tk_x T s ≠ rd_tx 36) (h37 : tk_x T s ≠ rd_tx 37) (hQ : am_WP d am_c195 80 [(2, 214), (0, 0)] [(0, rm_in l)] M Q) : am_CL d 195 [(2, 214)] M Q := by
  have t4 := hT.2.1
  obtain ⟨hL, hTP, hS, g20, g26, g23, g19, s0, s1, n0, n5, c0⟩ := hst
  have p6 := hP.2.2.2.2.2.1
  refine h_195_0 hL ⟨by omega, rm_177 36 (by decide +kernel) hL hS s1 ?_⟩
  rw [if_neg h36]
  refine h_195_7 hL ⟨fun h => absurd rfl h, fun _ => ⟨by omega, rm_177 37 (by decide +kernel) hL hS s1 ?_⟩⟩
  rw [if_neg h37]
  exact h_195_19 hL ⟨fun _ => ⟨by omega, rm_186 hL hP.1 hP.2.1 (by omega) hQ⟩, fun h => absurd rfl h⟩
theorem rm_195o {d : Nat} {T : tk_T} {o i0 s n cl i : Int} {l : rm_L} {M : am_M} {Q : List am_V → am_M → Prop} (hd : 2 ≤ d) (hT : tk_ok T) (hst : rm_st M T o s n cl) (hP : rm_P M o i0 s cl l i) (h36 : tk_x T s ≠ rd_tx 36) (h37 : tk_x T s ≠ rd_tx 37) (hin : rm_in l = -1) (hQ : Q [(0, 4)] M) : am_CL d 195 [(2, 214)] M Q := by
  refine rm_195h hd hT hst hP h36 h37 ?_
  rw [hin]
  exact h_195_80 hst.1 ⟨fun h => absurd rfl h, fun _ => hQ⟩
theorem rm_195b {d : Nat} {T : tk_T} {o i0 s n cl i : Int} {pend ls : rm_L} {f0 cur : rd_F} {M : am_M} {Q : List am_V → am_M → Prop} (hd : 4 ≤ d) (hT : tk_ok T) (hst : rm_st M T o s n cl) (hP : rm_P M o i0 s cl (pend ++ (31, f0) :: ls) i) (hB : rm_B M o i cl cur) (h36 : tk_x T s ≠ rd_tx 36) (h37 : tk_x T s ≠ rd_tx 37) (hp : ∀ q ∈ pend, 1 ≤ rm_bd q.1) (hp2 : ∀ q ∈ pend, q.1 ≤ 30) (h01 : rm_s0 pend cur)
    (hy : tk_x T s = rd_tx 32 → ∀ M' cl' i', rm_mv M M' i0 → rm_st M' T o (tk_e T s) n cl' → rm_P M' o i0 (tk_e T s) cl' ls i' → rm_B M' o i' cl' (rm_fd pend cur) → Q [(0, 2)] M')
    (hn : tk_x T s ≠ rd_tx 32 → ∀ M' t, nm_Fr rm_xb M M' → rm_bs M' (tk_b T s) (pend ++ (31, f0) :: ls) → Q [(0, t)] M') : am_CL d 195 [(2, 214)] M Q := by
  have t4 := hT.2.1
  have hst' := hst
  obtain ⟨hL, hTP, hS, g20, g26, g23, g19, s0, s1, n0, n5, c0⟩ := hst'
  have he := tk_se s1
  refine rm_195h (by omega) hT hst hP h36 h37 ?_
  rw [rm_in_app hp2, show rm_in ((31, f0) :: ls) = 31 from rfl]
  refine h_195_80 hL ⟨fun _ => ⟨by omega, rm_178 32 (by decide +kernel) hL hS s1 (h_195_93 hL ⟨by omega, ?_⟩)⟩, fun h => absurd (by decide) h⟩
  by_cases e9 : tk_x T s = rd_tx 32
  · rw [if_pos e9]
    refine rm_179y (by decide) (by omega) hL hT hTP hS s0 s1 g19 (fun M1 F1 hk => ?_)
    have st1 := rm_st_n hst F1 hk (by omega) he.2
    have P1 := rm_P_n hL hP F1 he.1
    have B1 := rm_B_n hL hB F1
    refine h_195_96 st1.1 ⟨fun h => absurd st1.2.2.2.2.2.2.1 h, fun _ => ⟨by omega, rm_settle (by omega) (by decide) (by omega) (fun q r h => by cases h; show rm_bd 31 < 1; decide) hp h01 st1 P1 B1 (fun M2 cl2 i2 mv2 st2 P2 B2 => h_195_108 st2.1 ?_)⟩⟩
    obtain ⟨mv3, st3, P3, B3⟩ := rm_pop (by decide) (by omega) st2 P2 B2
    exact hy e9 _ cl2 i2 (rm_mv_t (rm_mv_t (rm_mv_n hL F1) mv2) mv3) st3 P3 B3
  · rw [if_neg e9]
    obtain ⟨F, hb⟩ := rm_bs_of (p := tk_b T s) (by omega) hst hP
    exact rm_179n hL hS g19 (h_195_96 hb.1 ⟨fun _ => hn e9 _ 2 F hb, fun h => absurd (by rw [hb.2.1]; decide) h⟩)
