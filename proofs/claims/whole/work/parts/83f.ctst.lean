/-! THE CLASS READS TESTS -/
theorem rc_K_h {mi : Nat} {T : tk_T} {o x : Int} {d0 d1 : Nat} {ht ht' : Int} {g : Int → Int → rd_R} (h : rc_K mi T o x d0 ht g) (hd : d0 ≤ d1) (hh : ht ≤ ht') : rc_K mi T o x d1 ht' g := by
  intro d M s n cl Q a b c e f
  exact h d M s n cl Q (by omega) b c e (fun f' s1 n1 M' cl' p q r t u => f f' s1 n1 M' cl' p q r t (nm_CB_h u hh))
theorem rc_plain {T : tk_T} {o x : Int} (hT : tk_ok T) {sum : Int → Int → rd_R} {sub : Option (Int → Int → rd_R)} {d0 : Nat} {ht hs : Int} (hd0 : 7 ≤ d0) (hh : hs + 1 ≤ ht) (hx : 0 ≤ x ∧ x ≤ 8) (h8 : sub = none → x = 8) (hsum : rc_K 108 T o x d0 hs sum) (hgs : rd_gd T sum) (hg : ∀ g, sub = some g → x < 8 ∧ rc_K 106 T o (x + 1) d0 ht g ∧ rd_gd T g ∧ rd_01 g) : rc_K 107 T o x (d0 + 1) ht (rd_pln T sum sub) := by
  intro d M s n cl Q hd hst hsl hE hK
  have t4 := hT.2.1
  have c0 := hst.2.2.2.2.2.2.2.2.2.2.1
  have s00 := hst.2.2.2.2.2.2.1
  have body : ∀ (b s1 i : Int) (M1 : am_M), rd_nots T 400 0 s = (b, s1) → b = 0 ∨ b = 1 → (b = 0 ∨ s < s1) → s ≤ s1 → rc_mv M M1 cl → rc_st M1 T o s1 n cl → am_CL (d - 1) 98 [(2, 30), (2, -41)] M1 (fun r M' => am_WP d am_c107 46 [(2, 30), (0, x), (0, b), (0, i)] (r ++ []) M' Q) := by
    intro b s1 i M1 hnot hb hbs hss mv1 st1
    have s14 := st1.2.2.2.2.2.2.2.1
    have he := tk_se s14
    have hE' : ∀ p M' s' n' cl', rd_pl1 T sum sub s1 n = .error p → nm_Fr rc_fg M1 M' → rc_st M' T o s' n' cl' → am_gt M' 30 2 = p → Q [(0, 0)] M' := fun p M' s' n' cl' h F st e => hE p M' s' n' cl' (by unfold rd_pln; rw [hnot]; simp only; rw [h]) (nm_Fr_trans mv1.1 F) st e
    have fin : ∀ (M5 : am_M) (x3 : Int) (f : rd_F) (s5 n5 cl5 : Int), rd_pl1 T sum sub s1 n = .ok (f, s5, n5) → rc_mv M1 M5 cl → rc_st M5 T o s5 n5 cl5 → cl5 - s5 ≤ cl - s1 → nm_CB (nm_mN o) (am_gt M5 32) cl cl5 ht f → am_WP d am_c107 181 [(2, 30), (0, x), (0, b), (0, x3)] [] M5 Q := by
      intro M5 x3 f s5 n5 cl5 hok mv5 st5 sl5 cb5
      have e : rd_pln T sum sub s n = .ok (rd_nt b f, s5, n5) := by unfold rd_pln; rw [hnot]; simp only; rw [hok]
      have s54 := st5.2.2.2.2.2.2.2.1
      refine h_107_181 st5.1 ⟨fun h => h_107_191 st5.1 ?_, fun h => ⟨by omega, rc_emit st5 (by omega) (by decide) (by decide) (by decide) (by decide) (fun M6 mv6 st6 e6 => h_107_191 st6.1 ?_)⟩⟩
      · refine hK _ _ _ M5 cl5 e (rc_mv_t mv1 mv5 (Int.le_refl _)) st5 (by omega) ?_
        unfold rd_nt; rw [if_pos h]; exact cb5
      · have lt := cb5.1
        refine hK _ _ _ M6 (cl5 + 1) e (rc_mv_t (rc_mv_t mv1 mv5 (Int.le_refl _)) mv6 (by omega)) st6 (by omega) ?_
        unfold rd_nt; rw [if_neg h]
        have h01 : nm_b01 f := rd_pl1_01 (fun g hg' => (hg g hg').2.2.2) _ _ _ _ _ hok
        exact nm_cb_not h01 e6 (nm_CB_c cb5 (fun k a b => mv6.2.2 k (by omega) b))
    refine rc_is 31 rfl (by decide) (by omega) hT st1 ?_
    by_cases e31 : tk_x T s1 = rd_tx 31
    · rw [if_pos e31]
      have adv := tk_advx 31 (by decide) s14 e31
      have pb : rd_pl1 T sum sub s1 n = rd_brk T (rd_tx 32) sub s1 n := by unfold rd_pl1; rw [if_pos e31]
      refine h_107_46 st1.1 ⟨fun h => absurd h (by decide), fun _ => ⟨fun h => ?_, fun h => ?_⟩⟩
      · cases hsub : sub with
        | none => have := h8 hsub; omega
        | some g =>
          obtain ⟨hx8, hgk, hgd, hg01⟩ := hg g hsub
          rw [hsub] at pb
          refine ⟨by omega, rc_step (by omega) hT st1 (fun M2 mv2 st2 => h_107_64 st2.1 ⟨by omega, ?_⟩)⟩
          rw [am_w_id (by omega) (by omega)]
          refine hgk (d - 1) M2 _ _ _ _ (by omega) st2 (by omega) (fun p M3 s' n' cl' hp F3 st3 e3 => ?_) (fun f s2 n2 M3 cl' hok mv3 st3 sl3 cb3 => ?_)
          · exact h_107_71 st3.1 ⟨fun h => absurd rfl h, fun _ => hE' p M3 s' n' cl' (by rw [hsub, pb]; simp only [rd_brk, hp]) (nm_Fr_trans mv2.1 F3) st3 e3⟩
          · refine h_107_71 st3.1 ⟨fun _ => ⟨by omega, rc_is 32 rfl (by decide) (by omega) hT st3 ?_⟩, fun h => absurd (by decide) h⟩
            have lt := cb3.1
            by_cases e32 : tk_x T s2 = rd_tx 32
            · rw [if_pos e32]
              refine h_107_82 st3.1 ⟨fun _ => ⟨by omega, rc_step (by omega) hT st3 (fun M4 mv4 st4 => h_107_94 st4.1 ?_)⟩, fun h => absurd (by decide) h⟩
              have he2 := tk_se st3.2.2.2.2.2.2.2.1
              refine fin M4 _ f (tk_e T s2) n2 cl' (by rw [hsub, pb]; simp only [rd_brk, hok, e32, if_true]) (rc_mv_t (rc_mv_t mv2 mv3 (Int.le_refl _)) mv4 (by omega)) st4 (by omega) ?_
              exact nm_CB_c cb3 (fun k a b => mv4.2.2 k (by omega) b)
            · rw [if_neg e32]
              refine h_107_82 st3.1 ⟨fun h => absurd rfl h, fun _ => ⟨by omega, rc_fail st3 (fun M4 F4 st4 e4 => h_107_89 st4.1 ⟨.inl rfl, ?_⟩)⟩⟩
              exact hE' _ M4 _ _ _ (by rw [hsub, pb]; simp only [rd_brk, hok, e32, if_false]) (nm_Fr_trans (nm_Fr_trans mv2.1 mv3.1) F4) st4 e4
      · refine ⟨by omega, rc_fail st1 (fun M3 F3 st3 e3 => h_107_59 st3.1 ⟨.inl rfl, ?_⟩)⟩
        cases hsub : sub with
        | none => exact hE' _ M3 _ _ _ (by rw [pb, hsub]; rfl) F3 st3 e3
        | some g => have := (hg g hsub).1; omega
    · rw [if_neg e31]
      have pb : rd_pl1 T sum sub s1 n = rd_cmp T sum s1 n := by unfold rd_pl1; rw [if_neg e31]
      refine h_107_46 st1.1 ⟨fun _ => ⟨by omega, ?_⟩, fun h => absurd rfl h⟩
      refine hsum (d - 1) M1 _ _ _ _ (by omega) st1 (by omega) (fun p M2 s' n' cl' hp F2 st2 e2 => ?_) (fun f s2 n2 M2 cl2 hok mv2 st2 sl2 cb2 => ?_)
      · exact h_107_102 st2.1 ⟨fun h => absurd rfl h, fun _ => hE' p M2 s' n' cl' (by rw [pb]; unfold rd_cmp; rw [hp]) F2 st2 e2⟩
      · have s24 := st2.2.2.2.2.2.2.2.1
        have lt2 := cb2.1
        have he2 := tk_se s24
        have go : ∀ op : Int, op = rd_cm (tk_x T s2) → op ≠ -1 → am_CL (d - 1) 99 [(2, 30)] M2 (fun r M' => am_WP d am_c107 165 [(2, 30), (0, x), (0, b), (0, op)] (r ++ []) M' Q) := by
          intro op hop hne
          obtain ⟨cx, c11, c13⟩ : tk_x T s2 ≠ [] ∧ 11 ≤ rd_cm (tk_x T s2) ∧ rd_cm (tk_x T s2) ≤ 13 := by
            rcases rd_cm_n (tk_x T s2) with e | e
            · exact absurd (hop.trans e) hne
            · exact e
          have adv2 := tk_adv s24 cx
          have hcm : ¬ rd_cm (tk_x T s2) = -1 := by omega
          refine rc_step (by omega) hT st2 (fun M3 mv3 st3 => h_107_165 st3.1 ⟨by omega, ?_⟩)
          refine hsum (d - 1) M3 _ _ _ _ (by omega) st3 (by omega) (fun p M4 s' n' cl' hp F4 st4 e4 => ?_) (fun f4 s4 n4 M4 cl4 hok4 mv4 st4 sl4 cb4 => ?_)
          · exact h_107_170 st4.1 ⟨fun h => absurd rfl h, fun _ => hE' p M4 s' n' cl' (by rw [pb]; unfold rd_cmp; rw [hok]; simp only; rw [if_neg hcm, hp]) (nm_Fr_trans (nm_Fr_trans mv2.1 mv3.1) F4) st4 e4⟩
          · have s44 := st4.2.2.2.2.2.2.2.1
            have lt4 := cb4.1
            refine h_107_170 st4.1 ⟨fun _ => ⟨by omega, rc_emit st4 (by omega) (by omega) (by omega) (by decide) (by decide) (fun M5 mv5 st5 e5 => ?_)⟩, fun h => absurd (by decide) h⟩
            refine fin M5 _ (nm_bin (rd_cm (tk_x T s2)) f f4) s4 n4 (cl4 + 1) (by rw [pb]; unfold rd_cmp; rw [hok]; simp only; rw [if_neg hcm, hok4]) (rc_mv_t (rc_mv_t (rc_mv_t mv2 mv3 (by omega)) mv4 (by omega)) mv5 (by omega)) st5 (by omega) ?_
            have b1 := nm_CB_c cb2 (c' := am_gt M5 32) (fun k a b => ((mv5.2.2 k (by omega) (by omega)).trans (mv4.2.2 k (by omega) b)).trans (mv3.2.2 k (by omega) b))
            have b2 := nm_CB_c cb4 (c' := am_gt M5 32) (fun k a b => mv5.2.2 k (by omega) b)
            rw [← hop]
            exact nm_CB_h (nm_cb_bin op (by omega) e5 b1 b2) (by omega)
        have no : rd_cm (tk_x T s2) = -1 → am_CL (d - 1) 97 [(2, 30)] M2 (fun r M' => am_WP d am_c107 160 [(2, 30), (0, x), (0, b), (0, -1)] (r ++ []) M' Q) := fun hcm => rc_fail st2 (fun M3 F3 st3 e3 => h_107_160 st3.1 ⟨.inl rfl, hE' _ M3 _ _ _ (by rw [pb]; unfold rd_cmp; rw [hok]; simp only; rw [if_pos hcm]) (nm_Fr_trans mv2.1 F3) st3 e3⟩)
        refine h_107_102 st2.1 ⟨fun _ => ⟨by omega, rc_is 33 rfl (by decide) (by omega) hT st2 ?_⟩, fun h => absurd (by decide) h⟩
        by_cases e33 : tk_x T s2 = rd_tx 33
        · rw [if_pos e33]
          exact h_107_113 st2.1 ⟨fun h => absurd h (by decide), fun _ => ⟨fun _ => ⟨by omega, go 11 (by unfold rd_cm; rw [if_pos e33]) (by decide)⟩, fun h => absurd (by decide) h⟩⟩
        rw [if_neg e33]
        refine h_107_113 st2.1 ⟨fun _ => ⟨by omega, rc_is 34 rfl (by decide) (by omega) hT st2 ?_⟩, fun h => absurd rfl h⟩
        by_cases e34 : tk_x T s2 = rd_tx 34
        · rw [if_pos e34]
          exact h_107_127 st2.1 ⟨fun h => absurd h (by decide), fun _ => ⟨fun _ => ⟨by omega, go 12 (by unfold rd_cm; rw [if_neg e33, if_pos e34]) (by decide)⟩, fun h => absurd (by decide) h⟩⟩
        rw [if_neg e34]
        refine h_107_127 st2.1 ⟨fun _ => ⟨by omega, rc_is 35 rfl (by decide) (by omega) hT st2 ?_⟩, fun h => absurd rfl h⟩
        by_cases e35 : tk_x T s2 = rd_tx 35
        · rw [if_pos e35]
          exact h_107_141 st2.1 ⟨fun h => absurd h (by decide), fun _ => ⟨fun _ => ⟨by omega, go 13 (by unfold rd_cm; rw [if_neg e33, if_neg e34, if_pos e35]) (by decide)⟩, fun h => absurd (by decide) h⟩⟩
        rw [if_neg e35]
        exact h_107_141 st2.1 ⟨fun _ => ⟨fun h => absurd rfl h, fun _ => ⟨by omega, no (by unfold rd_cm; rw [if_neg e33, if_neg e34, if_neg e35])⟩⟩, fun h => absurd rfl h⟩
  have loop : ∀ (m : Nat) (i b s1 : Int) (M1 : am_M), (m : Int) = 400 - i → 0 ≤ i → rd_nots T 400 0 s = rd_nots T m b s1 → b = 0 ∨ b = 1 → (b = 0 ∨ s < s1) → s ≤ s1 → rc_mv M M1 cl → rc_st M1 T o s1 n cl → am_WP d am_c107 4 [(2, 30), (0, x), (0, b), (0, i)] [] M1 Q := by
    intro m
    induction m with
    | zero =>
      intro i b s1 M1 hi hi0 hnot hb hbs hss mv1 st1
      exact h_107_4 st1.1 ⟨fun _ => ⟨by omega, body b s1 i M1 hnot hb hbs hss mv1 st1⟩, fun h => absurd (by omega) h⟩
    | succ m ih =>
      intro i b s1 M1 hi hi0 hnot hb hbs hss mv1 st1
      have s14 := st1.2.2.2.2.2.2.2.1
      refine h_107_4 st1.1 ⟨fun h => absurd h (by omega), fun _ => ⟨by omega, rc_is 30 rfl (by decide) (by omega) hT st1 ?_⟩⟩
      rw [show rd_nots T (m + 1) b s1 = (if tk_x T s1 = rd_tx 30 then rd_nots T m (1 - b) (tk_e T s1) else (b, s1)) from rfl] at hnot
      by_cases e30 : tk_x T s1 = rd_tx 30
      · rw [if_pos e30] at hnot ⊢
        have adv := tk_advx 30 (by decide) s14 e30
        have nx : ∀ b', b' = 1 - b → am_CL (d - 1) 99 [(2, 30)] M1 (fun r M' => am_WP d am_c107 34 [(2, 30), (0, x), (0, b'), (0, i)] (r ++ []) M' Q) := by
          intro b' hb'
          refine rc_step (by omega) hT st1 (fun M2 mv2 st2 => h_107_34 st2.1 ?_)
          rw [am_w_id (by omega) (by omega), hb']
          exact ih (i + 1) (1 - b) (tk_e T s1) M2 (by omega) (by omega) hnot (by omega) (.inr (by omega)) (by omega) (rc_mv_t mv1 mv2 (Int.le_refl _)) st2
        exact h_107_17 st1.1 ⟨fun h => absurd h (by decide), fun _ => ⟨fun h => ⟨by omega, nx 0 (by omega)⟩, fun h => ⟨by omega, nx 1 (by omega)⟩⟩⟩
      · rw [if_neg e30] at hnot ⊢
        exact h_107_17 st1.1 ⟨fun _ => ⟨by omega, body b s1 i M1 hnot hb hbs hss mv1 st1⟩, fun h => absurd rfl h⟩
  exact h_107_0 hst.1 (loop 400 0 0 s M (by decide) (by decide) rfl (.inl rfl) (.inl rfl) (Int.le_refl _) (rc_mv_r _ _) hst)
/-- what an "and", an "or" has open -/
def rc_opn (N : Int) (c : Int → Int) (start pos opn op ht : Int) (A : Option rd_F) : Prop := match A with
  | none => opn = -1 ∧ pos = start
  | some f => opn = pos - 1 ∧ c opn = nm_cw op 0 ∧ nm_CB N c start opn ht f
def rd_cz (z : Int) (A : Option rd_F) (cur : rd_F) : rd_F := match A with
  | none => cur
  | some f => nm_jmp z f cur
theorem rc_opn_c {N : Int} {c c' : Int → Int} {start pos opn op ht : Int} {A : Option rd_F} (h : rc_opn N c start pos opn op ht A) (hc : ∀ k, start ≤ k → k < pos → c' k = c k) : rc_opn N c' start pos opn op ht A := by
  cases A with
  | none => exact h
  | some f =>
    obtain ⟨h1, h2, h3⟩ := h
    have lt := h3.1
    exact ⟨h1, (hc opn (by omega) (by omega)).trans h2, nm_CB_c h3 (fun k a b => hc k a (by omega))⟩
theorem rc_opn_le {N : Int} {c : Int → Int} {start pos opn op ht : Int} {A : Option rd_F} (h : rc_opn N c start pos opn op ht A) : start ≤ pos := by
  cases A with
  | none => have := h.2; omega
  | some f =>
    obtain ⟨h1, h2, h3⟩ := h
    have lt := h3.1
    omega
theorem rc_lead {d : Nat} {T : tk_T} {o s n cl1 start pos opn op z ht : Int} {A : Option rd_F} {cur : rd_F} {M : am_M} {Q : List am_V → am_M → Prop} (ho : (op = 4 ∧ z = 1) ∨ (op = 5 ∧ z = 0)) (hst : rc_st M T o s n cl1) (h0 : 0 ≤ start) (hA : rc_opn (nm_mN o) (am_gt M 32) start pos opn op ht A) (hc : nm_CB (nm_mN o) (am_gt M 32) pos cl1 ht cur)
    (hQ : ∀ M', nm_Fr rc_fg M M' → am_gt M' 30 2 = am_gt M 30 2 → rc_st M' T o s n cl1 → (∀ k, k < start → am_gt M' 32 k = am_gt M 32 k) → nm_CB (nm_mN o) (am_gt M' 32) start cl1 ht (rd_cz z A cur) → Q [] M') : am_CL d 103 [(2, 30), (0, opn)] M Q := by
  cases A with
  | none =>
    obtain ⟨h1, h2⟩ := hA
    refine h_103_0 hst.1 ⟨fun _ => hQ M (nm_Fg_refl _ _) rfl hst (fun _ _ => rfl) ?_, fun h => absurd (by omega) h⟩
    rw [← h2]; exact hc
  | some f =>
    obtain ⟨h1, h2, h3⟩ := hA
    have lt := h3.1
    have lt2 := hc.1
    have hst' := hst
    obtain ⟨hL, hP, hS, g3, g8, g10, s0, s1, n0, n5, c0, c4⟩ := hst'
    refine h_103_0 hL ⟨fun h => absurd h (by omega), fun _ => ⟨fun h => absurd h (by omega), fun _ => ⟨by omega, by omega, ?_⟩⟩⟩
    rw [g10, h2, rc_or2 (by omega) (by omega) c0 (by omega)]
    have F : nm_Fr rc_fg M (am_st M 32 opn (nm_cw op cl1)) := nm_Fr_st (nm_Fg_refl _ _) (nm_in_c (lo := 0) (hi := 436) (by simp only [List.mem_cons, true_or, or_true]) (by omega) (by omega))
    have g : ∀ i, am_gt (am_st M 32 opn (nm_cw op cl1)) 30 i = am_gt M 30 i := fun i => by rw [nm_gt_st, if_neg (fun q => absurd q.1 (by decide))]
    have kp : ∀ k, k ≠ opn → am_gt (am_st M 32 opn (nm_cw op cl1)) 32 k = am_gt M 32 k := fun k hk => by rw [nm_gt_st, if_neg (fun q => hk q.2)]
    refine hQ _ F (g 2) ⟨rc_lay hL F, rc_tp_f hL F hP, ⟨(g 4).trans hS.1, (g 5).trans hS.2.1, (g 6).trans hS.2.2.1, (g 7).trans hS.2.2.2⟩, (g 3).trans g3, (g 8).trans g8, (g 10).trans g10, s0, s1, n0, n5, c0, c4⟩ (fun k hk => kp k (by omega)) ?_
    have b1 := nm_CB_c h3 (c' := am_gt (am_st M 32 opn (nm_cw op cl1)) 32) (fun k a b => kp k (by omega))
    have b2 := nm_CB_c hc (c' := am_gt (am_st M 32 opn (nm_cw op cl1)) 32) (fun k a b => kp k (by omega))
    rw [show pos = opn + 1 by omega] at b2
    exact nm_CB_h (nm_cb_jmp op z ho (by rw [nm_gt_st, if_pos ⟨rfl, rfl⟩]) (by omega) h0 b1 b2) (by omega)
theorem rc_lead0 {d : Nat} {T : tk_T} {o s n cl x : Int} {M : am_M} {Q : List am_V → am_M → Prop} (hst : rc_st M T o s n cl) (hQ : ∀ M', nm_Fr rc_fg M M' → am_gt M' 30 2 = am_gt M 30 2 → rc_st M' T o s n cl → Q [] M') : am_CL d 103 [(2, 30), (0, x)] M Q := by
  have hst' := hst
  obtain ⟨hL, hP, hS, g3, g8, g10, rest⟩ := hst'
  refine h_103_0 hL ⟨fun _ => hQ M (nm_Fg_refl _ _) rfl hst, fun h => ⟨fun _ => hQ M (nm_Fg_refl _ _) rfl hst, fun h2 => ⟨by omega, by omega, ?_⟩⟩⟩
  generalize am_or (am_gt M 32 x) (am_gt M 30 10) = v
  have F : nm_Fr rc_fg M (am_st M 32 x v) := nm_Fr_st (nm_Fg_refl _ _) (nm_in_c (lo := 0) (hi := 436) (by simp only [List.mem_cons, true_or, or_true]) (by omega) (by omega))
  have g : ∀ i, am_gt (am_st M 32 x v) 30 i = am_gt M 30 i := fun i => by rw [nm_gt_st, if_neg (fun q => absurd q.1 (by decide))]
  exact hQ _ F (g 2) ⟨rc_lay hL F, rc_tp_f hL F hP, ⟨(g 4).trans hS.1, (g 5).trans hS.2.1, (g 6).trans hS.2.2.1, (g 7).trans hS.2.2.2⟩, (g 3).trans g3, (g 8).trans g8, (g 10).trans g10, rest⟩
theorem rd_ca_z (A : Option rd_F) (cur : rd_F) : rd_cz 0 A cur = rd_ca A cur := by cases A <;> rfl
theorem rd_co_z (A : Option rd_F) (cur : rd_F) : rd_cz 1 A cur = rd_co A cur := by cases A <;> rfl
theorem rc_test {T : tk_T} {o x : Int} (hT : tk_ok T) {pl : Int → Int → rd_R} {d0 : Nat} {ht : Int} (hd0 : 5 ≤ d0) (hpk : rc_K 107 T o x d0 ht pl) (hgd : rd_gd T pl) : rc_K 106 T o x (d0 + 1) ht (rd_testw T pl) := by
  intro d M s n cl Q hd hst hsl hE hK
  have t4 := hT.2.1
  have c0 := hst.2.2.2.2.2.2.2.2.2.2.1
  have bad : ∀ (p : Int) (M1 : am_M) (s1 n1 cl1 x2 x3 x5 : Int) (l6 : am_V), rd_testw T pl s n = .error p → nm_Fr rc_fg M M1 → rc_st M1 T o s1 n1 cl1 → am_gt M1 30 2 = p → am_WP d am_c106 14 [(2, 30), (0, x), (0, x2), (0, x3), (0, 0), (0, x5), l6] [] M1 Q := by
    intro p M1 s1 n1 cl1 x2 x3 x5 l6 hp' F1 st1 e1
    have ex : 0 < d ∧ am_CL (d - 1) 103 [(2, 30), (0, x2)] M1 (fun r M' => am_WP d am_c106 133 [(2, 30), (0, x), (0, x2), (0, x3), (0, 0), (0, x5), l6] (r ++ []) M' Q) := by
      refine ⟨by omega, rc_lead0 st1 (fun M2 F2 e2 st2 => h_106_133 st2.1 ⟨by omega, rc_lead0 st2 (fun M3 F3 e3 st3 => h_106_138 st3.1 ⟨.inl rfl, ?_⟩)⟩)⟩
      exact hE p M3 _ _ _ hp' (nm_Fr_trans (nm_Fr_trans F1 F2) F3) st3 (e3.trans (e2.trans e1))
    exact h_106_14 st1.1 ⟨fun _ => ex, fun _ => ⟨fun _ => ex, fun h => absurd rfl h⟩⟩
  have exit : ∀ (i : Int) (oA aA : Option rd_F) (cur : rd_F) (s1 n1 cl1 posO posA opnO opnA : Int) (M1 : am_M) (l6 : am_V), rd_testw T pl s n = .ok (rd_co oA (rd_ca aA cur), s1, n1) → rc_mv M M1 cl → rc_st M1 T o s1 n1 cl1 → cl1 - s1 ≤ cl - s → rc_opn (nm_mN o) (am_gt M1 32) cl posO opnO 4 ht oA → rc_opn (nm_mN o) (am_gt M1 32) posO posA opnA 5 ht aA → nm_CB (nm_mN o) (am_gt M1 32) posA cl1 ht cur → am_CL (d - 1) 103 [(2, 30), (0, opnA)] M1 (fun r M' => am_WP d am_c106 133 [(2, 30), (0, x), (0, opnA), (0, opnO), (0, 1), (0, i), l6] (r ++ []) M' Q) := by
    intro i oA aA cur s1 n1 cl1 posO posA opnO opnA M1 l6 heq mv1 st1 sl1 hO hA hc
    have le1 := rc_opn_le hO
    refine rc_lead (z := 0) (.inr ⟨rfl, rfl⟩) st1 (by omega) hA hc (fun M2 F2 e2 st2 k2 cb2 => h_106_133 st2.1 ⟨by omega, ?_⟩)
    have hO2 := rc_opn_c hO (c' := am_gt M2 32) (fun k a b => k2 k b)
    refine rc_lead (z := 1) (.inl ⟨rfl, rfl⟩) st2 c0 hO2 cb2 (fun M3 F3 e3 st3 k3 cb3 => h_106_138 st3.1 ⟨.inr rfl, ?_⟩)
    rw [rd_ca_z, rd_co_z] at cb3
    exact hK _ _ _ M3 cl1 heq ⟨nm_Fr_trans mv1.1 (nm_Fr_trans F2 F3), e3.trans (e2.trans mv1.2.1), fun k a b => ((k3 k b).trans (k2 k (by omega))).trans (mv1.2.2 k a b)⟩ st3 sl1 cb3
  have loop : ∀ (m : Nat) (i : Int) (oA aA : Option rd_F) (cur : rd_F) (s1 n1 cl1 posO posA opnO opnA : Int) (M1 : am_M) (l6 : am_V), (m : Int) = 400 - i → 0 ≤ i → rd_testw T pl s n = rd_testl T pl m oA aA cur s1 n1 → rc_mv M M1 cl → rc_st M1 T o s1 n1 cl1 → cl1 - s1 ≤ cl - s → rc_opn (nm_mN o) (am_gt M1 32) cl posO opnO 4 ht oA → rc_opn (nm_mN o) (am_gt M1 32) posO posA opnA 5 ht aA → nm_CB (nm_mN o) (am_gt M1 32) posA cl1 ht cur → am_WP d am_c106 14 [(2, 30), (0, x), (0, opnA), (0, opnO), (0, 1), (0, i), l6] [] M1 Q := by
    intro m
    induction m with
    | zero =>
      intro i oA aA cur s1 n1 cl1 posO posA opnO opnA M1 l6 hi hi0 heq mv1 st1 sl1 hO hA hc
      exact h_106_14 st1.1 ⟨fun _ => ⟨by omega, exit i oA aA cur s1 n1 cl1 posO posA opnO opnA M1 l6 heq mv1 st1 sl1 hO hA hc⟩, fun h => absurd (by omega) h⟩
    | succ m ih =>
      intro i oA aA cur s1 n1 cl1 posO posA opnO opnA M1 l6 hi hi0 heq mv1 st1 sl1 hO hA hc
      have s14 := st1.2.2.2.2.2.2.2.1
      have s10 := st1.2.2.2.2.2.2.1
      have le1 := rc_opn_le hO
      have le2 := rc_opn_le hA
      have lt := hc.1
      have ne3 : rd_tx 36 ≠ rd_tx 37 := by decide +kernel
      simp only [rd_testl] at heq
      -- behind the step and the leads: the plain one, and round again
      have tail : ∀ (M4 : am_M) (op pO pA oO oAn x6 : Int) (oA' aA' : Option rd_F), rd_testw T pl s n = (match pl (tk_e T s1) n1 with
          | .error p => .error p
          | .ok (g, s2, n2) => rd_testl T pl m oA' aA' g s2 n2) → rc_mv M M4 cl → rc_st M4 T o (tk_e T s1) n1 (cl1 + 1) → s1 < tk_e T s1 → rc_opn (nm_mN o) (am_gt M4 32) cl pO oO 4 ht oA' → rc_opn (nm_mN o) (am_gt M4 32) pO pA oAn 5 ht aA' → pA = cl1 + 1 → am_WP d am_c106 115 [(2, 30), (0, x), (0, oAn), (0, oO), (0, 1), (0, i), (0, x6)] [] M4 Q := by
        intro M4 op pO pA oO oAn x6 oA' aA' heq' mv4 st4 adv hO' hA' hpA
        have l1 := rc_opn_le hO'
        have l2 := rc_opn_le hA'
        refine h_106_115 st4.1 ⟨by omega, hpk (d - 1) M4 _ _ _ _ (by omega) st4 (by omega) (fun p M5 s' n' cl' hp' F5 st5 e5 => ?_) (fun g s2 n2 M5 cl' hok mv5 st5 sl5 cb5 => ?_)⟩
        · rw [hp'] at heq'
          exact h_106_120 st5.1 (bad p M5 s' n' cl' _ _ _ _ heq' (nm_Fr_trans mv4.1 F5) st5 e5)
        · rw [hok] at heq'
          refine h_106_120 st5.1 ?_
          rw [am_w_id (by omega) (by omega)]
          refine ih (i + 1) oA' aA' g s2 n2 cl' pO pA oO oAn M5 _ (by omega) (by omega) heq' (rc_mv_t mv4 mv5 (by omega)) st5 (by omega) (rc_opn_c hO' (fun k a b => mv5.2.2 k (by omega) (by omega))) (rc_opn_c hA' (fun k a b => mv5.2.2 k (by omega) (by omega))) ?_
          rw [hpA]; exact cb5
      refine h_106_14 st1.1 ⟨fun h => absurd h (by omega), fun _ => ⟨fun h => absurd h (by decide), fun _ => ⟨by omega, rc_is 36 rfl (by decide) (by omega) hT st1 ?_⟩⟩⟩
      by_cases e36 : tk_x T s1 = rd_tx 36
      · rw [if_pos e36] at heq ⊢
        have adv := tk_advx 36 (by decide) s14 e36
        have e37 : ¬ tk_x T s1 = rd_tx 37 := fun h => ne3 (e36.symm.trans h)
        refine h_106_33 st1.1 ⟨fun _ => ⟨by omega, rc_is 37 rfl (by decide) (by omega) hT st1 ?_⟩, fun h => absurd (by decide) h⟩
        rw [if_neg e37]
        refine h_106_51 st1.1 ⟨by omega, rc_step (by omega) hT st1 (fun M2 mv2 st2 => h_106_57 st2.1 ⟨by omega, ?_⟩)⟩
        refine rc_lead (z := 0) (.inr ⟨rfl, rfl⟩) st2 (by omega) (rc_opn_c hA (fun k a b => mv2.2.2 k (by omega) (by omega))) (nm_CB_c hc (fun k a b => mv2.2.2 k (by omega) b)) (fun M3 F3 e3 st3 k3 cb3 => ?_)
        rw [rd_ca_z] at cb3
        have mv3 : rc_mv M M3 cl := ⟨nm_Fr_trans (rc_mv_t mv1 mv2 (by omega)).1 F3, e3.trans (rc_mv_t mv1 mv2 (by omega)).2.1, fun k a b => (k3 k (by omega)).trans ((rc_mv_t mv1 mv2 (by omega)).2.2 k a b)⟩
        refine h_106_62 st3.1 ⟨fun _ => ?_, fun h => absurd rfl h⟩
        have g10 := st3.2.2.2.2.2.1
        refine h_106_72 st3.1 ⟨fun _ => ⟨fun _ => ⟨fun _ => ⟨by omega, rc_emit st3 (by omega) (by decide) (by decide) (by decide) (by decide) (fun M4 mv4 st4 e4 => ?_)⟩, fun h => absurd rfl h⟩, fun h => absurd rfl h⟩, fun h => absurd rfl h⟩
        rw [g10]
        refine tail M4 5 posO (cl1 + 1) opnO cl1 0 oA (some (rd_ca aA cur)) heq (rc_mv_t mv3 mv4 (by omega)) st4 adv ?_ ⟨by omega, e4, ?_⟩ rfl
        · exact rc_opn_c hO (fun k a b => ((mv4.2.2 k (by omega) (by omega)).trans (k3 k b)).trans (mv2.2.2 k (by omega) (by omega)))
        · exact nm_CB_c cb3 (fun k a b => mv4.2.2 k (by omega) b)
      · rw [if_neg e36] at heq ⊢
        refine h_106_33 st1.1 ⟨fun h => absurd rfl h, fun _ => ⟨by omega, rc_is 37 rfl (by decide) (by omega) hT st1 ?_⟩⟩
        by_cases e37 : tk_x T s1 = rd_tx 37
        · rw [if_pos e37] at heq ⊢
          have adv := tk_advx 37 (by decide) s14 e37
          refine h_106_42 st1.1 ⟨fun h => absurd h (by decide), fun _ => ⟨by omega, rc_is 37 rfl (by decide) (by omega) hT st1 ?_⟩⟩
          rw [if_pos e37]
          refine h_106_51 st1.1 ⟨by omega, rc_step (by omega) hT st1 (fun M2 mv2 st2 => h_106_57 st2.1 ⟨by omega, ?_⟩)⟩
          refine rc_lead (z := 0) (.inr ⟨rfl, rfl⟩) st2 (by omega) (rc_opn_c hA (fun k a b => mv2.2.2 k (by omega) (by omega))) (nm_CB_c hc (fun k a b => mv2.2.2 k (by omega) b)) (fun M3 F3 e3 st3 k3 cb3 => ?_)
          rw [rd_ca_z] at cb3
          have mv3 : rc_mv M M3 cl := ⟨nm_Fr_trans (rc_mv_t mv1 mv2 (by omega)).1 F3, e3.trans (rc_mv_t mv1 mv2 (by omega)).2.1, fun k a b => (k3 k (by omega)).trans ((rc_mv_t mv1 mv2 (by omega)).2.2 k a b)⟩
          have hO3 : rc_opn (nm_mN o) (am_gt M3 32) cl posO opnO 4 ht oA := rc_opn_c hO (fun k a b => (k3 k b).trans (mv2.2.2 k (by omega) (by omega)))
          refine h_106_62 st3.1 ⟨fun h => absurd h (by decide), fun _ => ⟨by omega, ?_⟩⟩
          refine rc_lead (z := 1) (.inl ⟨rfl, rfl⟩) st3 c0 hO3 cb3 (fun M5 F5 e5 st5 k5 cb5 => ?_)
          rw [rd_co_z] at cb5
          have mv5 : rc_mv M M5 cl := ⟨nm_Fr_trans mv3.1 F5, e5.trans mv3.2.1, fun k a b => (k5 k b).trans (mv3.2.2 k a b)⟩
          have g10 := st5.2.2.2.2.2.1
          refine h_106_72 st5.1 ⟨fun h => absurd h (by decide), fun _ => ⟨fun h => absurd h (by decide), fun _ => ⟨fun h => absurd h (by decide), fun _ => ⟨by omega, rc_emit st5 (by omega) (by decide) (by decide) (by decide) (by decide) (fun M4 mv4 st4 e4 => ?_)⟩⟩⟩⟩
          rw [g10]
          refine tail M4 4 (cl1 + 1) (cl1 + 1) cl1 (-1) 1 (some (rd_co oA (rd_ca aA cur))) none heq (rc_mv_t mv5 mv4 (by omega)) st4 adv ⟨by omega, e4, ?_⟩ ⟨rfl, rfl⟩ rfl
          exact nm_CB_c cb5 (fun k a b => mv4.2.2 k (by omega) b)
        · rw [if_neg e37] at heq ⊢
          exact h_106_42 st1.1 ⟨fun _ => ⟨by omega, exit i oA aA cur s1 n1 cl1 posO posA opnO opnA M1 l6 heq mv1 st1 sl1 hO hA hc⟩, fun h => absurd rfl h⟩
  refine h_106_0 hst.1 ⟨by omega, hpk (d - 1) M s n cl _ (by omega) hst hsl (fun p M1 s' n' cl' hp' F1 st1 e1 => ?_) (fun g s2 n2 M1 cl' hok mv1 st1 sl1 cb1 => ?_)⟩
  · exact h_106_9 st1.1 (bad p M1 s' n' cl' _ _ _ _ (by unfold rd_testw; rw [hp']) F1 st1 e1)
  · exact h_106_9 st1.1 (loop 400 0 none none g s2 n2 cl' cl cl (-1) (-1) M1 _ (by decide) (by decide) (by unfold rd_testw; rw [hok]) mv1 st1 sl1 ⟨rfl, rfl⟩ ⟨rfl, rfl⟩ cb1)
/-- tests, by the brackets that are left -/
theorem rc_tests {T : tk_T} {o : Int} (hT : tk_ok T) (ho : o = 0 ∨ o = 1) : ∀ k : Nat, k ≤ 8 → rc_K 106 T o (8 - (k : Int)) (9 + 2 * k) (4 + 2 * (k : Int)) (rd_test T o k)
  | 0, _ => by
    have hp := rc_plain (x := 8 - ((0 : Nat) : Int)) (sub := none) (d0 := 7) (ht := 4) (hs := 3) hT (by decide) (by decide) (by decide) (fun _ => rfl) (rc_sums hT ho 0 (by decide)) (rd_sum_gd T o 0) (fun g h => by cases h)
    exact rc_test hT (by decide) hp (rd_pln_gd (rd_sum_gd T o 0) (fun g h => by cases h))
  | k + 1, hk => by
    have ih := rc_tests hT ho k (by omega)
    have hp := rc_plain (x := 8 - ((k + 1 : Nat) : Int)) (sub := some (rd_test T o k)) (d0 := 7 + 2 * (k + 1)) (ht := 4 + 2 * ((k + 1 : Nat) : Int)) (hs := 3 + 2 * ((k + 1 : Nat) : Int)) hT (by omega) (by omega) (by omega) (fun h => by cases h) (rc_sums hT ho (k + 1) hk) (rd_sum_gd T o (k + 1)) (fun g h => by
      cases h
      refine ⟨by omega, ?_, rd_test_gd T o k, rd_test_01 T o k⟩
      rw [show 8 - ((k + 1 : Nat) : Int) + 1 = 8 - (k : Int) by omega]; exact rc_K_h ih (by omega) (by omega))
    have hs := rc_test hT (by omega) hp (rd_pln_gd (rd_sum_gd T o (k + 1)) (fun g h => by cases h; exact rd_test_gd T o k))
    rw [show 9 + 2 * (k + 1) = 7 + 2 * (k + 1) + 1 + 1 by omega]
    exact hs
