/-! THE CLASS READS SUMS -/
theorem nm_CB_c {N : Int} {c c' : Int → Int} {i j ht : Int} {f : rd_F} (h : nm_CB N c i j ht f) (hc : ∀ k, i ≤ k → k < j → c' k = c k) : nm_CB N c' i j ht f := by
  obtain ⟨f0, f00, f1, f2, f3⟩ := h
  refine ⟨f0, f00, f1, f2, ?_⟩
  intro d M a x2 top e Q l5 l6 l7 l8 hd hh
  refine f3 d M a x2 top e Q l5 l6 l7 l8 hd ?_
  obtain ⟨g1, g2, g3, g4, g5, g6, g7, g8, g9, g10, g11⟩ := hh
  exact ⟨g1, g2, g3, g4, g5, g6, g7, fun k x y => (g8 k x y).trans (hc k x y), g9, g10, g11⟩
theorem nm_CB_h {N : Int} {c : Int → Int} {i j ht ht' : Int} {f : rd_F} (h : nm_CB N c i j ht f) (hh : ht ≤ ht') : nm_CB N c i j ht' f := by
  obtain ⟨f0, f00, f1, f2, f3⟩ := h
  refine ⟨f0, by omega, f1, f2, ?_⟩
  intro d M a x2 top e Q l5 l6 l7 l8 hd h1 h2 h3
  exact f3 d M a x2 top e Q l5 l6 l7 l8 hd h1 h2 (by omega)
abbrev rc_fg : nm_Rg := [(30, 2, 3), (30, 4, 9), (30, 10, 11), (32, 0, 436)]
/-- the class's reader: at a token, with n parts and cl steps of code -/
def rc_st (M : am_M) (T : tk_T) (o s n cl : Int) : Prop := nm_Lay M ∧ rc_tp M T ∧ rc_tk M T s ∧ am_gt M 30 3 = 1 - o ∧ am_gt M 30 8 = n ∧ am_gt M 30 10 = cl ∧ 0 ≤ s ∧ s ≤ T.2 ∧ 0 ≤ n ∧ n ≤ 50 ∧ 0 ≤ cl ∧ cl ≤ 436
/-- goes on, and the code below cl stays -/
def rc_mv (M M' : am_M) (cl : Int) : Prop := nm_Fr rc_fg M M' ∧ am_gt M' 30 2 = am_gt M 30 2 ∧ ∀ k, 0 ≤ k → k < cl → am_gt M' 32 k = am_gt M 32 k
theorem rc_mv_r (M : am_M) (cl : Int) : rc_mv M M cl := ⟨nm_Fg_refl _ _, rfl, fun _ _ _ => rfl⟩
theorem rc_mv_t {M M1 M2 : am_M} {cl cl1 : Int} (h : rc_mv M M1 cl) (h1 : rc_mv M1 M2 cl1) (hc : cl ≤ cl1) : rc_mv M M2 cl := ⟨nm_Fr_trans h.1 h1.1, h1.2.1.trans h.2.1, fun k a b => (h1.2.2 k a (by omega)).trans (h.2.2 k a b)⟩
theorem rc_lay {M M' : am_M} (hL : nm_Lay M) (F : nm_Fr rc_fg M M') : nm_Lay M' := nm_Lay_fr hL F (by decide +kernel)
theorem rc_tp_f {M M' : am_M} {T : tk_T} (hL : nm_Lay M) (F : nm_Fr rc_fg M M') (h : rc_tp M T) : rc_tp M' T := ⟨(nm_gt_frd (g := [(30, 1, 2)]) F hL (by decide) (by decide) (by decide)).trans h.1, fun i a b => (nm_gt_frn F hL (by decide) (by decide)).trans (h.2 i a b)⟩
theorem rc_o_f {M M' : am_M} (hL : nm_Lay M) (F : nm_Fr rc_fg M M') : am_gt M' 30 3 = am_gt M 30 3 := nm_gt_frd (g := [(30, 3, 4)]) F hL (by decide) (by decide) (by decide)
theorem rc_step {d : Nat} {T : tk_T} {o s n cl : Int} {M : am_M} {Q : List am_V → am_M → Prop} (hd : 1 ≤ d) (hT : tk_ok T) (h : rc_st M T o s n cl) (hQ : ∀ M', rc_mv M M' cl → rc_st M' T o (tk_e T s) n cl → Q [] M') : am_CL d 99 [(2, 30)] M Q := by
  obtain ⟨hL, hP, hS, g3, g8, g10, s0, s1, n0, n5, c0, c4⟩ := h
  have he := tk_se s1
  refine rc_99 hd hL hT hP hS.2.1 (by omega) he.2 (fun M' F hk => ?_)
  have F' : nm_Fr rc_fg M M' := nm_Fr_sub F (by decide)
  refine hQ M' ⟨F', nm_gt_frd (g := [(30, 2, 3)]) F hL (by decide) (by decide) (by decide), fun k _ _ => nm_gt_frn F hL (by decide) (by decide)⟩ ⟨rc_lay hL F', rc_tp_f hL F' hP, hk, (rc_o_f hL F').trans g3, (nm_gt_frd (g := [(30, 8, 9)]) F hL (by decide) (by decide) (by decide)).trans g8, (nm_gt_frd (g := [(30, 10, 11)]) F hL (by decide) (by decide) (by decide)).trans g10, by omega, he.2, n0, n5, c0, c4⟩
theorem rc_is {d : Nat} {T : tk_T} {o s n cl a : Int} {M : am_M} {Q : List am_V → am_M → Prop} (k : Nat) (ha : a = -10 - (k : Int)) (hk : k < 39) (hd : 4 ≤ d) (hT : tk_ok T) (h : rc_st M T o s n cl) (hQ : Q [(0, if tk_x T s = rd_tx k then 1 else 0)] M) : am_CL d 98 [(2, 30), (2, a)] M Q := rc_98 k ha hk hd h.1 hT h.2.1 h.2.2.1 h.2.2.2.2.2.2.1 h.2.2.2.2.2.2.2.1 hQ
theorem rc_fail {d : Nat} {T : tk_T} {o s n cl : Int} {M : am_M} {Q : List am_V → am_M → Prop} (h : rc_st M T o s n cl) (hQ : ∀ M', nm_Fr rc_fg M M' → rc_st M' T o s n cl → am_gt M' 30 2 = tk_b T s → Q [(0, 0)] M') : am_CL d 97 [(2, 30)] M Q := by
  obtain ⟨hL, hP, hS, g3, g8, g10, rest⟩ := h
  refine h_97_0 hL ?_
  rw [hS.1]
  have F : nm_Fr rc_fg M (am_st M 30 2 (tk_b T s)) := nm_Fr_st (nm_Fg_refl _ _) (by decide)
  refine hQ _ F ⟨rc_lay hL F, rc_tp_f hL F hP, ⟨?_, ?_, ?_, ?_⟩, (rc_o_f hL F).trans g3, ?_, ?_, rest⟩ ?_
  · rw [nm_gt_st, if_neg (by decide)]; exact hS.1
  · rw [nm_gt_st, if_neg (by decide)]; exact hS.2.1
  · rw [nm_gt_st, if_neg (by decide)]; exact hS.2.2.1
  · rw [nm_gt_st, if_neg (by decide)]; exact hS.2.2.2
  · rw [nm_gt_st, if_neg (by decide)]; exact g8
  · rw [nm_gt_st, if_neg (by decide)]; exact g10
  · rw [nm_gt_st, if_pos ⟨rfl, rfl⟩]
theorem rc_emit {d : Nat} {T : tk_T} {o s n cl op ar : Int} {M : am_M} {Q : List am_V → am_M → Prop} (h : rc_st M T o s n cl) (hc : cl < 436) (o0 : 0 ≤ op) (o1 : op < 14) (a0 : 0 ≤ ar) (a1 : ar < 65536) (hQ : ∀ M', rc_mv M M' cl → rc_st M' T o s n (cl + 1) → am_gt M' 32 cl = nm_cw op ar → Q [] M') : am_CL d 102 [(2, 30), (0, op), (0, ar)] M Q := by
  obtain ⟨hL, hP, hS, g3, g8, g10, s0, s1, n0, n5, c0, c4⟩ := h
  refine h_102_0 hL ?_
  rw [g10, rc_or o0 o1 a0 a1, am_w_id (by omega) (by omega)]
  refine ⟨fun h => absurd h (by omega), fun _ => ⟨c0, hc, ?_⟩⟩
  have F1 : nm_Fr rc_fg M (am_st M 32 cl (nm_cw op ar)) := nm_Fr_st (nm_Fg_refl _ _) (nm_in_c (lo := 0) (hi := 436) (by simp only [List.mem_cons, true_or, or_true]) c0 hc)
  have F : nm_Fr rc_fg M (am_st (am_st M 32 cl (nm_cw op ar)) 30 10 (cl + 1)) := nm_Fr_st F1 (by decide)
  have g : ∀ i, i ≠ 10 → am_gt (am_st (am_st M 32 cl (nm_cw op ar)) 30 10 (cl + 1)) 30 i = am_gt M 30 i := fun i hi => by rw [nm_gt_st, if_neg (fun q => hi q.2), nm_gt_st, if_neg (fun q => absurd q.1 (by decide))]
  refine hQ _ ⟨F, g 2 (by decide), fun k x y => ?_⟩ ⟨rc_lay hL F, rc_tp_f hL F hP, ⟨(g 4 (by decide)).trans hS.1, (g 5 (by decide)).trans hS.2.1, (g 6 (by decide)).trans hS.2.2.1, (g 7 (by decide)).trans hS.2.2.2⟩, (rc_o_f hL F).trans g3, (g 8 (by decide)).trans g8, by rw [nm_gt_st, if_pos ⟨rfl, rfl⟩], s0, s1, n0, n5, by omega, by omega⟩ ?_
  · rw [nm_gt_st, if_neg (fun q => absurd q.1 (by decide)), nm_gt_st, if_neg (fun q => by omega)]
  · rw [nm_gt_st, if_neg (fun q => absurd q.1 (by decide)), nm_gt_st, if_pos ⟨rfl, rfl⟩]
theorem rc_emit0 {d : Nat} {T : tk_T} {o s n cl op : Int} {M : am_M} {Q : List am_V → am_M → Prop} (h : rc_st M T o s n cl) (o0 : 0 ≤ op) (o1 : op < 14) (hQ : ∀ M' cl', nm_Fr rc_fg M M' → am_gt M' 30 2 = am_gt M 30 2 → rc_st M' T o s n cl' → Q [] M') : am_CL d 102 [(2, 30), (0, op), (0, 0)] M Q := by
  by_cases hc : cl < 436
  · exact rc_emit h hc o0 o1 (by decide) (by decide) (fun M' m s' _ => hQ M' _ m.1 m.2.1 s')
  · refine h_102_0 h.1 ⟨fun _ => hQ M cl (nm_Fg_refl _ _) rfl h, fun hn => absurd ?_ hn⟩
    rw [h.2.2.2.2.2.1]; omega
theorem rc_jn {d : Nat} {T : tk_T} {o s n cl : Int} {M : am_M} {Q : List am_V → am_M → Prop} (hd : 5 ≤ d) (hT : tk_ok T) (h : rc_st M T o s n cl) (hQ : Q [(0, rd_jn (tk_x T s))] M) : am_CL d 109 [(2, 30)] M Q := rc_109 hd h.1 hT h.2.1 h.2.2.1 h.2.2.2.2.2.2.1 h.2.2.2.2.2.2.2.1 hQ
/-- a method that reads what g tells -/
def rc_K (mi : Nat) (T : tk_T) (o x : Int) (d0 : Nat) (ht : Int) (g : Int → Int → rd_R) : Prop :=
  ∀ (d : Nat) (M : am_M) (s n cl : Int) (Q : List am_V → am_M → Prop), d0 ≤ d → rc_st M T o s n cl → cl - s ≤ 35 →
    (∀ p M' s' n' cl', g s n = .error p → nm_Fr rc_fg M M' → rc_st M' T o s' n' cl' → am_gt M' 30 2 = p → Q [(0, 0)] M') →
    (∀ f s1 n1 M' cl', g s n = .ok (f, s1, n1) → rc_mv M M' cl → rc_st M' T o s1 n1 cl' → cl' - s1 ≤ cl - s → nm_CB (nm_mN o) (am_gt M' 32) cl cl' ht f → Q [(0, 1)] M') →
    am_CL d mi [(2, 30), (0, x)] M Q
theorem rc_leaf {T : tk_T} {o x : Int} (hT : tk_ok T) (ho : o = 0 ∨ o = 1) {d : Nat} {M : am_M} {s n cl : Int} {Q : List am_V → am_M → Prop} (hd : 6 ≤ d) (hst : rc_st M T o s n cl) (hsl : cl - s ≤ 35)
    (hE : ∀ p M' s' n' cl', rd_leaf T o s n = .error p → nm_Fr rc_fg M M' → rc_st M' T o s' n' cl' → am_gt M' 30 2 = p → Q [(0, 0)] M')
    (hK : ∀ f s1 n1 M' cl', rd_leaf T o s n = .ok (f, s1, n1) → rc_mv M M' cl → rc_st M' T o s1 n1 cl' → cl' - s1 ≤ cl - s → nm_CB (nm_mN o) (am_gt M' 32) cl cl' 1 f → Q [(0, 1)] M') :
    am_WP d am_c110 74 [(2, 30), (0, x), (9, 0), (9, 0), (9, 0)] [(0, rd_wd o (tk_x T s))] M Q := by
  have hst' := hst
  obtain ⟨hL, hP, hS, g3, g8, g10, s0, s1, n0, n5, c0, c4⟩ := hst'
  have t4 := hT.2.1
  have he := tk_se s1
  have fail : ∀ x2, ((rd_wd o (tk_x T s) = -1 ∧ ¬ tk_n T s 0 1000) ∨ 50 ≤ n) → am_CL (d - 1) 97 [(2, 30)] M (fun r M' => am_WP d am_c110 104 [(2, 30), (0, x), (0, x2), (9, 0), (9, 0)] (r ++ []) M' Q) := by
    intro x2 hc
    refine rc_fail hst (fun M' F st2 e2 => h_110_104 st2.1 ⟨.inl rfl, ?_⟩)
    exact hE (tk_b T s) M' _ _ _ (by unfold rd_leaf; rw [if_pos hc]) F st2 e2
  have go : n < 50 → ¬ (rd_wd o (tk_x T s) = -1 ∧ ¬ tk_n T s 0 1000) → am_CL (d - 1) 99 [(2, 30)] (am_st M 30 8 (am_w (am_gt M 30 8 + 1))) (fun r M' => am_WP d am_c110 124 [(2, 30), (0, x), (0, rd_wd o (tk_x T s)), (0, am_gt M 30 7), (9, 0)] (r ++ []) M' Q) := by
    intro hn hc
    have hcc : ¬ ((rd_wd o (tk_x T s) = -1 ∧ ¬ tk_n T s 0 1000) ∨ 50 ≤ n) := by rintro (h | h); exact hc h; omega
    have adv : s < tk_e T s := by
      rcases rd_wd_n o (tk_x T s) with hw | hw
      · exact tk_adn (lo := 0) (hi := 1000) s1 (by
          by_cases hh : tk_n T s 0 1000
          · exact hh
          · exact absurd ⟨hw, hh⟩ hc)
      · exact tk_adv s1 hw.1
    rw [g8, hS.2.2.2, am_w_id (by omega) (by omega)]
    have F0 : nm_Fr rc_fg M (am_st M 30 8 (n + 1)) := nm_Fr_st (nm_Fg_refl _ _) (by decide)
    have g : ∀ i, i ≠ 8 → am_gt (am_st M 30 8 (n + 1)) 30 i = am_gt M 30 i := fun i hi => by rw [nm_gt_st, if_neg (fun q => hi q.2)]
    have st0 : rc_st (am_st M 30 8 (n + 1)) T o s (n + 1) cl := ⟨rc_lay hL F0, rc_tp_f hL F0 hP, ⟨(g 4 (by decide)).trans hS.1, (g 5 (by decide)).trans hS.2.1, (g 6 (by decide)).trans hS.2.2.1, (g 7 (by decide)).trans hS.2.2.2⟩, (rc_o_f hL F0).trans g3, by rw [nm_gt_st, if_pos ⟨rfl, rfl⟩], (g 10 (by decide)).trans g10, s0, s1, by omega, by omega, c0, c4⟩
    have mv0 : rc_mv M (am_st M 30 8 (n + 1)) cl := ⟨F0, g 2 (by decide), fun k _ _ => by rw [nm_gt_st, if_neg (fun q => absurd q.1 (by decide))]⟩
    refine rc_step (by omega) hT st0 (fun M1 mv1 st1 => ?_)
    have mv : rc_mv M M1 cl := rc_mv_t mv0 mv1 (Int.le_refl _)
    have lf : rd_leaf T o s n = (if rd_wd o (tk_x T s) = -1 then .ok (fun _ => some (tk_w T s), tk_e T s, n + 1) else if o = 0 ∨ rd_wd o (tk_x T s) < 4 then .ok (fun e => some (e (rd_wd o (tk_x T s))), tk_e T s, n + 1) else if tk_n T (tk_e T s) 0 (if rd_wd o (tk_x T s) = 4 then 5 else 7) then .ok (fun e => some (e (rd_wd o (tk_x T s) + tk_w T (tk_e T s))), tk_e T (tk_e T s), n + 1) else .error (tk_b T (tk_e T s))) := by
      unfold rd_leaf; rw [if_neg hcc]
    have o3 := st1.2.2.2.1
    have em : ∀ (pc : Nat) (op ar : Int) (l4 : am_V) (R : List am_V → am_M → Prop), 0 ≤ op → op < 14 → 0 ≤ ar → ar < 65536 → (∀ M2, rc_mv M M2 cl → rc_st M2 T o (tk_e T s) (n + 1) (cl + 1) → am_gt M2 32 cl = nm_cw op ar → R [] M2) → am_CL (d - 1) 102 [(2, 30), (0, op), (0, ar)] M1 R := by
      intro pc op ar l4 R a1 a2 a3 a4 hR
      exact rc_emit st1 (by omega) a1 a2 a3 a4 (fun M2 mv2 st2 e2 => hR M2 (rc_mv_t mv mv2 (Int.le_refl _)) st2 e2)
    refine h_110_124 st1.1 ⟨fun hw => ?_, fun hw => ⟨by omega, ?_⟩⟩
    · have hwn : rd_wd o (tk_x T s) ≠ -1 := hw
      rcases rd_wd_n o (tk_x T s) with hw1 | ⟨hw1, hw2, hw3⟩
      · exact absurd hw1 hwn
      have word : (o = 0 ∨ rd_wd o (tk_x T s) < 4) → am_CL (d - 1) 102 [(2, 30), (0, 2), (0, rd_wd o (tk_x T s))] M1 (fun r M' => am_WP d am_c110 156 [(2, 30), (0, x), (0, rd_wd o (tk_x T s)), (0, tk_c T s), (9, 0)] (r ++ []) M' Q) := by
        intro hcase
        refine em 156 2 _ (9, 0) _ (by decide) (by decide) hw2 (by omega) (fun M2 mv2 st2 e2 => h_110_156 st2.1 (h_110_205 st2.1 ?_))
        refine hK _ _ _ M2 _ (by rw [lf, if_neg hwn, if_pos hcase]) mv2 st2 (by omega) ?_
        exact nm_cb_push 2 _ e2 (.inr ⟨rfl, hw2, by unfold nm_mN; split <;> omega, by omega, rfl⟩)
      refine ⟨fun h3 => ⟨by omega, word (.inl (by omega))⟩, fun h3 => ⟨fun h4 => ?_, fun h4 => ⟨by omega, word (.inr (by omega))⟩⟩⟩
      have ho1 : o = 1 := by omega
      have nb : ∀ hi, hi ≤ 7 → (hi = if rd_wd o (tk_x T s) = 4 then 5 else 7) → ∀ m : Int, am_CL (d - 1) 101 [(2, 30), (0, 0), (0, hi)] M1 (fun r M' => am_WP d am_c110 182 [(2, 30), (0, x), (0, rd_wd o (tk_x T s)), (0, tk_c T s), (0, m)] (r ++ []) M' Q) := by
        intro hi h7 hhi m
        have hcase : ¬ (o = 0 ∨ rd_wd o (tk_x T s) < 4) := by omega
        refine rc_101 st1.1 st1.2.2.1 he.2 (by decide) (by omega) (fun hy => ?_) (fun hn' => ?_)
        · have hv := tk_c_v (by omega) hy
          have hyb := hy.2
          refine h_110_182 st1.1 ⟨fun _ => ⟨by omega, ?_⟩, fun h => absurd (by decide) h⟩
          rw [st1.2.2.1.2.2.2, hv, am_w_id (by omega) (by omega)]
          refine em 201 2 _ (0, m) _ (by decide) (by decide) (by omega) (by omega) (fun M2 mv2 st2 e2 => ?_)
          refine h_110_201 st2.1 ⟨by omega, rc_step (by omega) hT st2 (fun M3 mv3 st3 => h_110_205 st3.1 ?_)⟩
          have he2 := tk_se he.2
          have hfin : tk_n T (tk_e T s) 0 (if rd_wd o (tk_x T s) = 4 then 5 else 7) := by rw [← hhi]; exact hy
          refine hK _ _ _ M3 _ (by rw [lf, if_neg hwn, if_neg hcase, if_pos hfin]) (rc_mv_t mv2 mv3 (by omega)) st3 (by omega) ?_
          have e3 : am_gt M3 32 cl = nm_cw 2 (rd_wd o (tk_x T s) + tk_w T (tk_e T s)) := (mv3.2.2 cl c0 (by omega)).trans e2
          refine nm_cb_push 2 _ e3 (.inr ⟨rfl, by omega, ?_, ?_, rfl⟩)
          · unfold nm_mN; rw [if_neg (by omega)]; split at hhi <;> omega
          · split at hhi <;> omega
        · refine h_110_182 st1.1 ⟨fun h => absurd rfl h, fun _ => ⟨by omega, rc_fail st1 (fun M2 F2 st2 e2 => h_110_189 st2.1 ⟨.inl rfl, ?_⟩)⟩⟩
          refine hE _ M2 _ _ _ (by rw [lf, if_neg hwn, if_neg hcase, if_neg (by rw [← hhi]; exact hn')]) (nm_Fr_trans mv.1 F2) st2 e2
      refine ⟨fun h5 => ⟨by omega, ?_⟩, fun h5 => ⟨by omega, ?_⟩⟩
      · rw [show am_w (8 - 1) = 7 by decide]; exact nb 7 (by decide) (by rw [if_neg (by omega)]) 8
      · rw [show am_w (6 - 1) = 5 by decide]; exact nb 5 (by decide) (by rw [if_pos (by omega)]) 6
    · have hw' : rd_wd o (tk_x T s) = -1 := by omega
      have hnum : tk_n T s 0 1000 := by
        by_cases hh : tk_n T s 0 1000
        · exact hh
        · exact absurd ⟨hw', hh⟩ hc
      have hv := tk_c_v (by decide) hnum
      have hb := hnum.2
      rw [hv]
      refine em 135 1 _ (9, 0) _ (by decide) (by decide) (by omega) (by omega) (fun M2 mv2 st2 e2 => h_110_135 st2.1 (h_110_205 st2.1 ?_))
      refine hK _ _ _ M2 _ (by rw [lf, if_pos hw']) mv2 st2 (by omega) ?_
      exact nm_cb_push 1 _ e2 (.inl ⟨rfl, by omega, by omega, rfl⟩)
  refine h_110_74 hL ⟨fun hw => ?_, fun hw => ⟨by omega, ?_⟩⟩
  · refine ⟨fun h5 => ⟨by omega, go (by rw [g8] at h5; exact h5) (fun q => hw q.1)⟩, fun h5 => ⟨by omega, fail _ (.inr (by rw [g8] at h5; omega))⟩⟩
  · have hw' : rd_wd o (tk_x T s) = -1 := by omega
    refine rc_101 hL hS s1 (by decide) (by decide) (fun hy => ?_) (fun hn => ?_)
    · exact h_110_88 hL ⟨fun h => absurd h (by decide), fun _ => ⟨fun h5 => ⟨by omega, go (by rw [g8] at h5; exact h5) (fun q => q.2 hy)⟩, fun h5 => ⟨by omega, fail _ (.inr (by rw [g8] at h5; omega))⟩⟩⟩
    · exact h_110_88 hL ⟨fun _ => ⟨by omega, fail _ (.inl ⟨hw', hn⟩)⟩, fun h => absurd rfl h⟩
theorem rc_part {T : tk_T} {o x : Int} (hT : tk_ok T) (ho : o = 0 ∨ o = 1) {sub : Option (Int → Int → rd_R)} {d0 : Nat} {ht : Int} (hd0 : 5 ≤ d0) (hht : 1 ≤ ht) (hx : 0 ≤ x ∧ x ≤ 8) (h8 : sub = none → x = 8) (hg : ∀ g, sub = some g → x < 8 ∧ rc_K 108 T o (x + 1) d0 ht g ∧ rd_gd T g) : rc_K 110 T o x (d0 + 1) ht (rd_part T o sub) := by
  intro d M s n cl Q hd hst hsl hE hK
  have hst' := hst
  obtain ⟨hL, hP, hS, g3, g8, g10, s0, s1, n0, n5, c0, c4⟩ := hst'
  have he := tk_se s1
  refine h_110_0 hL ⟨by omega, rc_is 8 rfl (by decide) (by omega) hT hst ?_⟩
  by_cases e8 : tk_x T s = rd_tx 8
  · rw [if_pos e8]
    have adv := tk_advx 8 (by decide) s1 e8
    have pb : rd_part T o sub s n = rd_brk T (rd_tx 9) sub s n := by unfold rd_part; rw [if_pos e8]
    rw [pb] at hE hK
    refine h_110_6 hL ⟨fun h => absurd h (by decide), fun _ => ⟨fun h => ?_, fun h => ?_⟩⟩
    · cases hsub : sub with
      | none => have := h8 hsub; omega
      | some g =>
        obtain ⟨hx8, hgk, hgd⟩ := hg g hsub
        rw [hsub] at hE hK
        refine ⟨by omega, rc_step (by omega) hT hst (fun M1 mv1 st1 => h_110_24 st1.1 ⟨by omega, ?_⟩)⟩
        rw [am_w_id (by omega) (by omega)]
        refine hgk (d - 1) M1 _ _ _ _ (by omega) st1 (by omega) (fun p M2 s' n' cl' hp F2 st2 e2 => ?_) (fun f s2 n2 M2 cl' hok mv2 st2 sl2 cb2 => ?_)
        · exact h_110_31 st2.1 ⟨fun h => absurd rfl h, fun _ => hE p M2 s' n' cl' (by simp only [rd_brk, hp]) (nm_Fr_trans mv1.1 F2) st2 e2⟩
        · refine h_110_31 st2.1 ⟨fun _ => ⟨by omega, rc_is 9 rfl (by decide) (by omega) hT st2 ?_⟩, fun h => absurd (by decide) h⟩
          have hcl : cl < cl' := cb2.1
          by_cases e9 : tk_x T s2 = rd_tx 9
          · rw [if_pos e9]
            refine h_110_42 st2.1 ⟨fun _ => ⟨by omega, rc_step (by omega) hT st2 (fun M3 mv3 st3 => h_110_54 st3.1 ?_)⟩, fun h => absurd (by decide) h⟩
            have he2 := tk_se st2.2.2.2.2.2.2.2.1
            refine hK f (tk_e T s2) n2 M3 cl' (by simp only [rd_brk, hok, e9, if_true]) (rc_mv_t (rc_mv_t mv1 mv2 (Int.le_refl _)) mv3 (by omega)) st3 (by omega) ?_
            exact nm_CB_c cb2 (fun k a b => mv3.2.2 k (by omega) b)
          · rw [if_neg e9]
            refine h_110_42 st2.1 ⟨fun h => absurd rfl h, fun _ => ⟨by omega, rc_fail st2 (fun M3 F3 st3 e3 => h_110_49 st3.1 ⟨.inl rfl, ?_⟩)⟩⟩
            exact hE _ M3 _ _ _ (by simp only [rd_brk, hok, e9, if_false]) (nm_Fr_trans (nm_Fr_trans mv1.1 mv2.1) F3) st3 e3
    · refine ⟨by omega, rc_fail hst (fun M3 F3 st3 e3 => h_110_19 st3.1 ⟨.inl rfl, ?_⟩)⟩
      cases hsub : sub with
      | none => exact hE _ M3 _ _ _ (by rw [hsub]; rfl) F3 st3 e3
      | some g => have := (hg g hsub).1; omega
  · rw [if_neg e8]
    have pb : rd_part T o sub s n = rd_leaf T o s n := by unfold rd_part; rw [if_neg e8]
    rw [pb] at hE hK
    have lf := rc_leaf (x := x) hT ho (d := d) (M := M) (Q := Q) (by omega) hst hsl hE (fun f s1 n1 M' cl' a b c e g => hK f s1 n1 M' cl' a b c e (nm_CB_h g hht))
    refine h_110_6 hL ⟨fun _ => ⟨fun h => ⟨by omega, ?_⟩, fun h => ⟨by omega, ?_⟩⟩, fun h => absurd rfl h⟩
    · rw [g3] at h
      refine rc_112 (by omega) hL hT hP hS s0 s1 ?_
      rw [show rd_wd o (tk_x T s) = rd_ow (tk_x T s) by unfold rd_wd; rw [if_neg (by omega)]] at lf
      exact lf
    · rw [g3] at h
      refine rc_111 (by omega) hL hT hP hS s0 s1 (h_110_67 hL ?_)
      rw [show rd_wd o (tk_x T s) = rd_lw (tk_x T s) by unfold rd_wd; rw [if_pos (by omega)]] at lf
      exact lf
/-- what is open, and what is read -/
def rc_acc (N : Int) (c : Int → Int) (cl0 cl1 hp opn : Int) (acc : Option (Int × rd_F)) (cur : rd_F) : Prop := match acc with
  | none => opn = -1 ∧ nm_CB N c cl0 cl1 (hp + 1) cur
  | some (op, f) => opn = op ∧ (op = 6 ∨ op = 7) ∧ ∃ i1, nm_CB N c cl0 i1 (hp + 2) f ∧ nm_CB N c i1 cl1 (hp + 1) cur
def rc_ob (acc : Option (Int × rd_F)) : Int := match acc with
  | none => 0
  | some _ => 1
theorem rc_acc_c {N : Int} {c c' : Int → Int} {cl0 cl1 hp opn : Int} {acc : Option (Int × rd_F)} {cur : rd_F} (h : rc_acc N c cl0 cl1 hp opn acc cur) (hc : ∀ k, cl0 ≤ k → k < cl1 → c' k = c k) : rc_acc N c' cl0 cl1 hp opn acc cur := by
  cases acc with
  | none => exact ⟨h.1, nm_CB_c h.2 hc⟩
  | some a =>
    obtain ⟨op, f⟩ := a
    obtain ⟨h1, h2, i1, h3, h4⟩ := h
    have a1 := h3.1
    have a2 := h4.1
    exact ⟨h1, h2, i1, nm_CB_c h3 (fun k x y => hc k x (by omega)), nm_CB_c h4 (fun k x y => hc k (by omega) y)⟩
theorem rc_acc_lt {N : Int} {c : Int → Int} {cl0 cl1 hp opn : Int} {acc : Option (Int × rd_F)} {cur : rd_F} (h : rc_acc N c cl0 cl1 hp opn acc cur) : cl0 < cl1 := by
  cases acc with
  | none => exact h.2.1
  | some a =>
    obtain ⟨op, f⟩ := a
    obtain ⟨h1, h2, i1, h3, h4⟩ := h
    have a1 := h3.1
    have a2 := h4.1
    omega
/-- what is open is closed -/
theorem rc_close {T : tk_T} {o s n cl0 cl1 hp opn : Int} {acc : Option (Int × rd_F)} {cur : rd_F} {d pc : Nat} {c : List (Nat × List (Nat × am_I))} {ls : List am_V} {M : am_M} {Q : List am_V → am_M → Prop} (hst : rc_st M T o s n cl1) (h0 : 0 ≤ cl0) (ha : rc_acc (nm_mN o) (am_gt M 32) cl0 cl1 hp opn acc cur) (hs : cl1 + rc_ob acc ≤ 436) (hd : 0 < d)
    (hK : ∀ M' cl2, rc_mv M M' cl1 → rc_st M' T o s n cl2 → cl2 = cl1 + rc_ob acc → nm_CB (nm_mN o) (am_gt M' 32) cl0 cl2 (hp + 2) (rd_cl acc cur) → am_WP d c pc ls [] M' Q) :
    (opn = -1 → am_WP d c pc ls [] M Q) ∧ (¬ (opn = -1) → 0 < d ∧ am_CL (d - 1) 102 [(2, 30), (0, opn), (0, 0)] M (fun r M' => am_WP d c pc ls (r ++ []) M' Q)) := by
  cases acc with
  | none =>
    refine ⟨fun _ => ?_, fun h => absurd ha.1 h⟩
    exact hK M cl1 (rc_mv_r _ _) hst (by simp only [rc_ob]; omega) (nm_CB_h ha.2 (by omega))
  | some a =>
    obtain ⟨op, f⟩ := a
    obtain ⟨h1, h2, i1, h3, h4⟩ := ha
    have a1 := h3.1
    have a2 := h4.1
    simp only [rc_ob] at hs
    refine ⟨fun h => by omega, fun _ => ⟨hd, ?_⟩⟩
    rw [h1]
    refine rc_emit hst (by omega) (by omega) (by omega) (by decide) (by decide) (fun M' mv st e => ?_)
    refine hK M' (cl1 + 1) mv st rfl ?_
    have b1 := nm_CB_c h3 (c' := am_gt M' 32) (fun k x y => mv.2.2 k (by omega) (by omega))
    have b2 := nm_CB_c h4 (c' := am_gt M' 32) (fun k x y => mv.2.2 k (by omega) y)
    exact nm_CB_h (nm_cb_bin op (by omega) e b1 b2) (by omega)
theorem rc_sum {T : tk_T} {o x : Int} (hT : tk_ok T) {part : Int → Int → rd_R} {d0 : Nat} {hp : Int} (hd0 : 5 ≤ d0) (hhp : 1 ≤ hp) (hpk : rc_K 110 T o x d0 hp part) (hgd : rd_gd T part) : rc_K 108 T o x (d0 + 1) (hp + 2) (rd_sumw T part) := by
  intro d M s n cl Q hd hst hsl hE hK
  have t4 := hT.2.1
  have c0 := hst.2.2.2.2.2.2.2.2.2.2.1
  -- a sum that is wrong
  have bad : ∀ (p : Int) (M1 : am_M) (s1 n1 cl1 x2 x4 x5 : Int) (l6 : am_V), rd_sumw T part s n = .error p → nm_Fr rc_fg M M1 → rc_st M1 T o s1 n1 cl1 → am_gt M1 30 2 = p → (x2 = -1 ∨ x2 = 6 ∨ x2 = 7) → am_WP d am_c108 17 [(2, 30), (0, x), (0, x2), (0, 0), (0, x4), (0, x5), l6] [] M1 Q := by
    intro p M1 s1 n1 cl1 x2 x4 x5 l6 hp' F1 st1 e1 hx2
    have ex : (x2 = -1 → am_WP d am_c108 123 [(2, 30), (0, x), (0, x2), (0, 0), (0, x4), (0, x5), l6] [] M1 Q) ∧ (¬ (x2 = -1) → 0 < d ∧ am_CL (d - 1) 102 [(2, 30), (0, x2), (0, 0)] M1 (fun r M' => am_WP d am_c108 123 [(2, 30), (0, x), (0, x2), (0, 0), (0, x4), (0, x5), l6] (r ++ []) M' Q)) := by
      refine ⟨fun _ => h_108_123 st1.1 ⟨.inl rfl, hE p M1 _ _ _ hp' F1 st1 e1⟩, fun h => ⟨by omega, rc_emit0 st1 (by omega) (by omega) (fun M2 cl2 F2 e2 st2 => h_108_123 st2.1 ⟨.inl rfl, hE p M2 _ _ _ hp' (nm_Fr_trans F1 F2) st2 (e2.trans e1)⟩)⟩⟩
    exact h_108_17 st1.1 ⟨fun _ => ex, fun _ => ⟨fun _ => ex, fun h => absurd rfl h⟩⟩
  have loop : ∀ (m : Nat) (i : Int) (acc : Option (Int × rd_F)) (cur : rd_F) (s1 n1 cl1 opn : Int) (M1 : am_M) (l6 : am_V), (m : Int) = 400 - i → 0 ≤ i → rd_sumw T part s n = rd_suml T part m acc cur s1 n1 → rc_mv M M1 cl → rc_st M1 T o s1 n1 cl1 → cl1 - s1 ≤ cl - s - rc_ob acc → rc_acc (nm_mN o) (am_gt M1 32) cl cl1 hp opn acc cur → am_WP d am_c108 17 [(2, 30), (0, x), (0, opn), (0, 1), (0, rd_jn (tk_x T s1)), (0, i), l6] [] M1 Q := by
    intro m
    induction m with
    | zero =>
      intro i acc cur s1 n1 cl1 opn M1 l6 hi hi0 heq mv1 st1 sl1 ha
      have s4 := st1.2.2.2.2.2.2.2.1
      have ob : 0 ≤ rc_ob acc := by cases acc <;> simp [rc_ob]
      have lt := rc_acc_lt ha
      have ex := rc_close (d := d) (pc := 123) (c := am_c108) (ls := [(2, 30), (0, x), (0, opn), (0, 1), (0, rd_jn (tk_x T s1)), (0, i), l6]) (Q := Q) st1 c0 ha (by omega) (by omega) (fun M2 cl2 mv2 st2 ecl cb => h_108_123 st2.1 ⟨.inr rfl, hK _ _ _ M2 cl2 (by rw [heq]; rfl) (rc_mv_t mv1 mv2 (by omega)) st2 (by omega) cb⟩)
      exact h_108_17 st1.1 ⟨fun _ => ex, fun h => absurd (by omega) h⟩
    | succ m ih =>
      intro i acc cur s1 n1 cl1 opn M1 l6 hi hi0 heq mv1 st1 sl1 ha
      have s4 := st1.2.2.2.2.2.2.2.1
      have s0' := st1.2.2.2.2.2.2.1
      have ob : 0 ≤ rc_ob acc ∧ rc_ob acc ≤ 1 := by cases acc <;> simp [rc_ob]
      have lt := rc_acc_lt ha
      refine h_108_17 st1.1 ⟨fun h => absurd h (by omega), fun _ => ⟨fun h => absurd h (by decide), fun _ => ⟨fun hj => ?_, fun hj => ?_⟩⟩⟩
      · refine rc_close (d := d) (pc := 123) (c := am_c108) (ls := [(2, 30), (0, x), (0, opn), (0, 1), (0, rd_jn (tk_x T s1)), (0, i), l6]) (Q := Q) st1 c0 ha (by omega) (by omega) (fun M2 cl2 mv2 st2 ecl cb => h_108_123 st2.1 ⟨.inr rfl, hK _ _ _ M2 cl2 (by rw [heq]; simp only [rd_suml]; rw [if_pos hj]) (rc_mv_t mv1 mv2 (by omega)) st2 (by omega) cb⟩)
      · have hjn : x = x := rfl
        obtain ⟨jx, j6, j10⟩ : tk_x T s1 ≠ [] ∧ 6 ≤ rd_jn (tk_x T s1) ∧ rd_jn (tk_x T s1) ≤ 10 := by
          rcases rd_jn_n (tk_x T s1) with e | e
          · exact absurd e hj
          · exact e
        have adv := tk_adv s4 jx
        have he := tk_se s4
        have sle : rd_suml T part (m + 1) acc cur s1 n1 = (match part (tk_e T s1) n1 with
          | .error p => .error p
          | .ok (g, s2, n2) => if rd_jn (tk_x T s1) ≤ 7 then rd_suml T part m (some (rd_jn (tk_x T s1), rd_cl acc cur)) g s2 n2 else rd_suml T part m acc (nm_bin (rd_jn (tk_x T s1)) cur g) s2 n2) := by
          simp only [rd_suml]; rw [if_neg hj]; rfl
        rw [sle] at heq
        -- behind what was closed, or not: step, part
        have closer : (rd_jn (tk_x T s1) = 6 ∨ rd_jn (tk_x T s1) = 7) → ∀ (M2 : am_M) (cl2 : Int), rc_mv M1 M2 cl1 → rc_st M2 T o s1 n1 cl2 → cl2 = cl1 + rc_ob acc → nm_CB (nm_mN o) (am_gt M2 32) cl cl2 (hp + 2) (rd_cl acc cur) → am_WP d am_c108 72 [(2, 30), (0, x), (0, opn), (0, 1), (0, rd_jn (tk_x T s1)), (0, i), (0, 1)] [] M2 Q := by
          intro h67 M2 cl2 mv2 st2 ecl cb
          refine h_108_72 st2.1 ⟨by omega, rc_step (by omega) hT st2 (fun M3 mv3 st3 => h_108_76 st3.1 ⟨by omega, ?_⟩)⟩
          have mv13 : rc_mv M M3 cl := rc_mv_t (rc_mv_t mv1 mv2 (by omega)) mv3 (by omega)
          refine hpk (d - 1) M3 _ _ _ _ (by omega) st3 (by omega) (fun p M4 s' n' cl' hp' F4 st4 e4 => ?_) (fun g s2 n2 M4 cl' hok mv4 st4 sl4 cb4 => ?_)
          · rw [hp'] at heq
            refine h_108_81 st4.1 ⟨fun h => absurd h (by decide), fun _ => h_108_100 st4.1 ⟨by omega, rc_jn (by omega) hT st4 (h_108_104 st4.1 (bad p M4 s' n' cl' _ _ _ _ heq (nm_Fr_trans mv13.1 F4) st4 e4 (by omega)))⟩⟩
          · rw [hok] at heq
            simp only [if_pos (show rd_jn (tk_x T s1) ≤ 7 by omega)] at heq
            refine h_108_81 st4.1 ⟨fun h => absurd h (by decide), fun _ => h_108_100 st4.1 ⟨by omega, rc_jn (by omega) hT st4 (h_108_104 st4.1 ?_)⟩⟩
            rw [am_w_id (by omega) (by omega)]
            have l4 := cb4.1
            have l2 := cb.1
            refine ih (i + 1) _ _ s2 n2 cl' _ M4 _ (by omega) (by omega) heq (rc_mv_t mv13 mv4 (by omega)) st4 (by simp only [rc_ob]; omega) ⟨rfl, h67, cl2, ?_, nm_CB_h cb4 (by omega)⟩
            exact nm_CB_c cb (fun k a b => (mv4.2.2 k (by omega) b).trans (mv3.2.2 k (by omega) b))
        have times : ¬ (rd_jn (tk_x T s1) = 6 ∨ rd_jn (tk_x T s1) = 7) → am_WP d am_c108 72 [(2, 30), (0, x), (0, opn), (0, 1), (0, rd_jn (tk_x T s1)), (0, i), (0, 0)] [] M1 Q := by
          intro h67
          refine h_108_72 st1.1 ⟨by omega, rc_step (by omega) hT st1 (fun M3 mv3 st3 => h_108_76 st3.1 ⟨by omega, ?_⟩)⟩
          have mv13 : rc_mv M M3 cl := rc_mv_t mv1 mv3 (by omega)
          have hopn : opn = -1 ∨ opn = 6 ∨ opn = 7 := by
            cases acc with
            | none => exact .inl ha.1
            | some a => obtain ⟨op, f⟩ := a; have := ha.1; have := ha.2.1; omega
          refine hpk (d - 1) M3 _ _ _ _ (by omega) st3 (by omega) (fun p M4 s' n' cl' hp' F4 st4 e4 => ?_) (fun g s2 n2 M4 cl' hok mv4 st4 sl4 cb4 => ?_)
          · rw [hp'] at heq
            refine h_108_81 st4.1 ⟨fun _ => ⟨by omega, rc_emit0 st4 (by omega) (by omega) (fun M5 cl5 F5 e5 st5 => ?_)⟩, fun h => absurd rfl h⟩
            exact h_108_100 st5.1 ⟨by omega, rc_jn (by omega) hT st5 (h_108_104 st5.1 (bad p M5 s' n' cl5 _ _ _ _ heq (nm_Fr_trans (nm_Fr_trans mv13.1 F4) F5) st5 (e5.trans e4) hopn))⟩
          · rw [hok] at heq
            simp only [if_neg (show ¬ rd_jn (tk_x T s1) ≤ 7 by omega)] at heq
            have l4 := cb4.1
            have s24 := st4.2.2.2.2.2.2.2.1
            refine h_108_81 st4.1 ⟨fun _ => ⟨by omega, rc_emit st4 (by omega) (by omega) (by omega) (by decide) (by decide) (fun M5 mv5 st5 e5 => ?_)⟩, fun h => absurd rfl h⟩
            refine h_108_100 st5.1 ⟨by omega, rc_jn (by omega) hT st5 (h_108_104 st5.1 ?_)⟩
            rw [am_w_id (by omega) (by omega)]
            have keep : ∀ k, 0 ≤ k → k < cl1 → am_gt M5 32 k = am_gt M1 32 k := fun k a b => ((mv5.2.2 k a (by omega)).trans (mv4.2.2 k a b)).trans (mv3.2.2 k a b)
            have cb5 := nm_CB_c cb4 (c' := am_gt M5 32) (fun k a b => mv5.2.2 k (by omega) b)
            refine ih (i + 1) _ _ s2 n2 (cl' + 1) _ M5 _ (by omega) (by omega) heq (rc_mv_t (rc_mv_t mv13 mv4 (by omega)) mv5 (by omega)) st5 (by omega) ?_
            have ha5 := rc_acc_c ha (c' := am_gt M5 32) (fun k a b => keep k (by omega) b)
            cases acc with
            | none => exact ⟨ha5.1, nm_CB_h (nm_cb_bin _ (by omega) e5 ha5.2 cb5) (by omega)⟩
            | some a =>
              obtain ⟨op, f⟩ := a
              obtain ⟨q1, q2, i1, q3, q4⟩ := ha5
              exact ⟨q1, q2, i1, q3, nm_CB_h (nm_cb_bin _ (by omega) e5 q4 cb5) (by omega)⟩
        refine ⟨fun h6 => ⟨fun h => absurd h (by decide), fun _ => ?_⟩, fun h6 => ⟨fun h7 => ⟨fun _ => times (by omega), fun h => absurd rfl h⟩, fun h7 => ⟨fun h => absurd h (by decide), fun _ => ?_⟩⟩⟩
        · exact rc_close (d := d) (pc := 72) (c := am_c108) (ls := [(2, 30), (0, x), (0, opn), (0, 1), (0, rd_jn (tk_x T s1)), (0, i), (0, 1)]) (Q := Q) st1 c0 ha (by omega) (by omega) (closer (.inl h6))
        · exact rc_close (d := d) (pc := 72) (c := am_c108) (ls := [(2, 30), (0, x), (0, opn), (0, 1), (0, rd_jn (tk_x T s1)), (0, i), (0, 1)]) (Q := Q) st1 c0 ha (by omega) (by omega) (closer (.inr (by omega)))
  refine h_108_0 hst.1 ⟨by omega, hpk (d - 1) M s n cl _ (by omega) hst hsl (fun p M1 s' n' cl' hp' F1 st1 e1 => ?_) (fun g s2 n2 M1 cl' hok mv1 st1 sl1 cb1 => ?_)⟩
  · refine h_108_7 st1.1 ⟨by omega, rc_jn (by omega) hT st1 (h_108_12 st1.1 ?_)⟩
    exact bad p M1 s' n' cl' _ _ _ _ (by unfold rd_sumw; rw [hp']) F1 st1 e1 (.inl rfl)
  · refine h_108_7 st1.1 ⟨by omega, rc_jn (by omega) hT st1 (h_108_12 st1.1 ?_)⟩
    exact loop 400 0 none g s2 n2 cl' _ M1 _ (by decide) (by decide) (by unfold rd_sumw; rw [hok]) mv1 st1 (by simp only [rc_ob]; omega) ⟨rfl, nm_CB_h cb1 (by omega)⟩
/-- sums, by the brackets that are left -/
theorem rc_sums {T : tk_T} {o : Int} (hT : tk_ok T) (ho : o = 0 ∨ o = 1) : ∀ k : Nat, k ≤ 8 → rc_K 108 T o (8 - (k : Int)) (7 + 2 * k) (3 + 2 * (k : Int)) (rd_sum T o k)
  | 0, _ => by
    have hp := rc_part (x := 8 - ((0 : Nat) : Int)) (sub := none) (d0 := 5) (ht := 1) hT ho (by decide) (by decide) (by decide) (fun _ => rfl) (fun g h => by cases h)
    exact rc_sum hT (by decide) (by decide) hp (rd_part_gd (fun g h => by cases h))
  | k + 1, hk => by
    have ih := rc_sums hT ho k (by omega)
    have hp := rc_part (x := 8 - ((k + 1 : Nat) : Int)) (sub := some (rd_sum T o k)) (d0 := 7 + 2 * k) (ht := 3 + 2 * (k : Int)) hT ho (by omega) (by omega) (by omega) (fun h => by cases h) (fun g h => by
      cases h
      refine ⟨by omega, ?_, rd_sum_gd T o k⟩
      rw [show 8 - ((k + 1 : Nat) : Int) + 1 = 8 - (k : Int) by omega]; exact ih)
    have hs := rc_sum hT (by omega) (by omega) hp (rd_part_gd (fun g h => by cases h; exact rd_sum_gd T o k))
    rw [show 7 + 2 * (k + 1) = 7 + 2 * k + 1 + 1 by omega, show (3 + 2 * ((k + 1 : Nat) : Int)) = 3 + 2 * (k : Int) + 2 by omega]
    exact hs
