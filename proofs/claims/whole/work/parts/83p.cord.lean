/-! ORDERS: PURE, AND THE CLASS RUNS THEM -/
def rd_oe (S : Int → Int) (W : nm_W) (dn md : Int) : Int → Int := fun i => if i = 0 then W.1 else if i = 1 then dn else if i = 2 then md else if i = 3 then (W.2.1.length : Int) else if i < 10 then (if i - 4 < S 0 then W.2.2.1 (i - 4) else -1) else W.2.2.2 (i - 10)
abbrev rd_S : Type := nm_X × Int × Int
def rd_one (X : nm_X) (c : rd_C) (dn md m b : Int) : Option rd_S := if (nm_ch X c.1 m b).2 < 0 then none else some ((nm_ch X c.1 m b).1, dn + 1, if c.1 = 3 then (nm_ch X c.1 m b).2 else md)
def rd_m (c : rd_C) (e : Int → Int) : Option Int := if c.1 = 3 then some 0 else c.2.1 e
def rd_b (c : rd_C) (e : Int → Int) : Option Int := if c.1 = 2 then c.2.2.1 e else some 0
/-- an order, once -/
def rd_on (X : nm_X) (c : rd_C) (dn md : Int) : Option rd_S := if rd_tg c.2.2.2.2 (rd_oe (nx_S X) (nx_W X) dn md) ≠ some 1 then some (X, dn, md) else match rd_m c (rd_oe (nx_S X) (nx_W X) dn md) with
  | none => none
  | some m => match rd_b c (rd_oe (nx_S X) (nx_W X) dn md) with
    | none => none
    | some b => rd_one X c dn md m b
def rd_rep (c : rd_C) : Nat → rd_S → Option rd_S
  | 0, st => some st
  | t + 1, st => match rd_on st.1 c st.2.1 st.2.2 with
    | none => none
    | some st' => rd_rep c t st'
def rd_all : List rd_C → Int → rd_S → Except Int rd_S
  | [], _, st => .ok st
  | c :: cs, k, st => match rd_rep c c.2.2.2.1.toNat st with
    | none => .error k
    | some st' => rd_all cs (k + 1) st'
def sp_14 (X : nm_X) : nm_X × Int := match rd_text (nx_P X, nx_L X) 1 with
  | .error p => (nx_rf (ns_R (ns_L X 0) (nm_up (nm_up (nx_R X) 9 (-1)) 8 p)) (-6), -6)
  | .ok cs => match rd_all cs 0 (ns_R (ns_L X 0) (nm_up (nm_up (nx_R X) 9 (-1)) 8 (-1)), 0, -1) with
    | .ok st => (nx_fn st.1, st.2.1)
    | .error k => (nx_rf (ns_R (ns_L X 0) (nm_up (nm_up (nm_up (nx_R X) 9 (-1)) 8 (-1)) 9 k)) (-3), -3)
/-- only the works and what is undone change -/
def rd_sm (X X' : nm_X) : Prop := ∃ W U, X' = ns_U (ns_W X W) U
theorem rd_sm_r (X : nm_X) : rd_sm X X := ⟨nx_W X, nx_U X, rfl⟩
theorem rd_sm_ch {X X' : nm_X} {k m b : Int} (h : rd_sm X X') : rd_sm X (nm_ch X' k m b).1 := by
  obtain ⟨W, U, rfl⟩ := h
  unfold nm_ch
  split
  · exact ⟨W, U, rfl⟩
  · exact ⟨_, _, rfl⟩
theorem rd_oe_bd {X : nm_X} {dn md : Int} (h : nm_ok X) (h1 : nm_bd dn) (h2 : nm_bd md) (h6 : (nx_W X).2.1.length ≤ 6) : ∀ k, 0 ≤ k → k < 18 → nm_bd (rd_oe (nx_S X) (nx_W X) dn md k) := by
  intro k k0 k1
  have g : nm_okW (nx_S X 0) (nx_W X) := h.1.2.2.1
  have w1 : 0 ≤ (nx_W X).1 := g.1
  have w2 : (nx_W X).1 ≤ 1999 := g.2.1
  unfold rd_oe
  split
  · exact ⟨by omega, by omega⟩
  · split
    · exact h1
    · split
      · exact h2
      · split
        · exact ⟨by omega, by omega⟩
        · split
          · split
            · have := g.2.2.2.2.1 (k - 4) (by omega) (by omega)
              exact ⟨by omega, by omega⟩
            · exact ⟨by decide, by decide⟩
          · have := g.2.2.2.2.2 (k - 10) (by omega) (by omega)
            exact ⟨by omega, by omega⟩
theorem nmc_67 {d : Nat} {w dn md : Int} {S : Int → Int} {W : nm_W} {M : am_M} {Q : List am_V → am_M → Prop} (hL : nm_Lay M) (hw : w ∈ nm_WL) (hS : nm_CS M 1 S) (hW : nm_CW M w W) (hQ : ∀ M', nm_Fr nm_wg M M' → (∀ k, 0 ≤ k → k < 18 → am_gt M' 18 k = rd_oe S W dn md k) → Q [] M') : am_CL d 67 [(2, 17), (2, w), (0, dn), (0, md)] M Q := by
  have z : ((18, 0, 18) : Int × Int × Int) ∈ nm_wg := List.mem_singleton.mpr rfl
  have lay : ∀ {M'}, nm_Fr nm_wg M M' → nm_Lay M' := fun F => nm_Lay_fr hL F (by decide +kernel)
  have wb := nm_Wb hw
  have s0 := nm_s0 hS
  have kW : ∀ {M'}, nm_Fr nm_wg M M' → nm_CW M' w W := fun F => nm_CW_fr hW hL hw F (nm_wgW hw)
  have kS : ∀ {M'}, nm_Fr nm_wg M M' → am_gt M' 1 0 = S 0 := fun F => (nm_gt_frn F hL (by decide) (by decide)).trans s0
  have F1 := nm_Fst (v := W.1) (i := 0) (nm_Fg_refl _ M) z (by decide) (by decide)
  have F2 := nm_Fst (v := dn) (i := 1) F1 z (by decide) (by decide)
  have F3 := nm_Fst (v := md) (i := 2) F2 z (by decide) (by decide)
  have F4 := nm_Fst (v := (W.2.1.length : Int)) (i := 3) F3 z (by decide) (by decide)
  have stock : ∀ (m : Nat) (j : Nat) (M1 : am_M), 8 - j ≤ m → j ≤ 8 → nm_Fr nm_wg M M1 → (∀ k, 0 ≤ k → k < 10 + (j : Int) → am_gt M1 18 k = rd_oe S W dn md k) → am_WP d am_c67 85 [(2, 17), (2, w), (0, dn), (0, md), (0, (j : Int))] [] M1 Q := by
    intro m
    induction m with
    | zero =>
      intro j M1 hm hj F hk
      obtain rfl : j = 8 := by omega
      exact h_67_85 (lay F) hw ⟨fun _ => hQ M1 F (fun k a b => hk k a (by omega)), fun h => absurd (by decide) h⟩
    | succ m ih =>
      intro j M1 hm hj F hk
      refine h_67_85 (lay F) hw ⟨fun h => hQ M1 F (fun k a b => hk k a (by omega)), fun h => ?_⟩
      rw [am_w_id (x := 10 + (j : Int)) (by omega) (by omega), am_w_id (x := (j : Int) + 1) (by omega) (by omega), (kW F).2.2.2.2.2 (j : Int) (by omega) (by omega)]
      refine ⟨by omega, by omega, by omega, by omega, ?_⟩
      have := ih (j + 1) (am_st M1 18 (10 + (j : Int)) (W.2.2.2 (j : Int))) (by omega) (by omega) (nm_Fst F z (by omega) (by omega)) (fun k a b => ?_)
      · rw [show ((j + 1 : Nat) : Int) = (j : Int) + 1 by omega] at this; exact this
      · by_cases hkj : k = 10 + (j : Int)
        · rw [hkj, nm_st_eq]
          unfold rd_oe
          rw [if_neg (by omega), if_neg (by omega), if_neg (by omega), if_neg (by omega), if_neg (by omega), show 10 + (j : Int) - 10 = (j : Int) by omega]
        · rw [nm_st_nj hkj]; exact hk k a (by omega)
  have silver : ∀ (m : Nat) (j : Nat) (M1 : am_M), 6 - j ≤ m → j ≤ 6 → nm_Fr nm_wg M M1 → (∀ k, 0 ≤ k → k < 4 + (j : Int) → am_gt M1 18 k = rd_oe S W dn md k) → am_WP d am_c67 37 [(2, 17), (2, w), (0, dn), (0, md), (0, (j : Int))] [] M1 Q := by
    intro m
    induction m with
    | zero =>
      intro j M1 hm hj F hk
      obtain rfl : j = 6 := by omega
      exact h_67_37 (lay F) hw ⟨fun _ => stock 8 0 M1 (by decide) (by decide) F (fun k a b => hk k a (by omega)), fun h => absurd (by decide) h⟩
    | succ m ih =>
      intro j M1 hm hj F hk
      refine h_67_37 (lay F) hw ⟨fun h => stock 8 0 M1 (by decide) (by decide) F (fun k a b => hk k a (by omega)), fun h => ?_⟩
      rw [am_w_id (x := 4 + (j : Int)) (by omega) (by omega), am_w_id (x := (j : Int) + 1) (by omega) (by omega), kS F]
      have nx : ∀ v, v = rd_oe S W dn md (4 + (j : Int)) → am_WP d am_c67 37 [(2, 17), (2, w), (0, dn), (0, md), (0, (j : Int) + 1)] [] (am_st M1 18 (4 + (j : Int)) v) Q := by
        intro v hv
        have := ih (j + 1) (am_st M1 18 (4 + (j : Int)) v) (by omega) (by omega) (nm_Fst F z (by omega) (by omega)) (fun k a b => ?_)
        · rw [show ((j + 1 : Nat) : Int) = (j : Int) + 1 by omega] at this; exact this
        · by_cases hkj : k = 4 + (j : Int)
          · rw [hkj, nm_st_eq]; exact hv
          · rw [nm_st_nj hkj]; exact hk k a (by omega)
      have ev : rd_oe S W dn md (4 + (j : Int)) = if (j : Int) < S 0 then W.2.2.1 (j : Int) else -1 := by
        unfold rd_oe
        rw [if_neg (by omega), if_neg (by omega), if_neg (by omega), if_neg (by omega), if_pos (by omega), show 4 + (j : Int) - 4 = (j : Int) by omega]
      refine ⟨fun h2 => ⟨by omega, by omega, nx _ (by rw [ev, if_neg (by omega)])⟩, fun h2 => ⟨by omega, by omega, by omega, by omega, ?_⟩⟩
      rw [(kW F).2.2.2.2.1 (j : Int) (by omega) (by omega)]
      exact nx _ (by rw [ev, if_pos (by omega)])
  refine h_67_0 hL hw ?_
  rw [hW.1]
  refine h_67_10 (lay F1) hw (h_67_17 (lay F2) hw ?_)
  rw [(kW F2).2.1]
  refine silver 6 0 _ (by decide) (by decide) F4 (fun k a b => ?_)
  have : k = 0 ∨ k = 1 ∨ k = 2 ∨ k = 3 := by omega
  rcases this with rfl | rfl | rfl | rfl <;> simp only [nm_gt_st, rd_oe, Int.reduceEq, and_true, and_false, if_true, if_false]
theorem rc_T_fr {n s : Int} {f : nm_Rg} {M M' : am_M} {o t : Int} {cs : List rd_C} (h : rc_T M o t cs) (hF : nm_Fg n s f M M') (hf : nm_lo f = true) : rc_T M' o t cs := by
  obtain ⟨h1, h2, h3, h4, h5, ⟨r1, r2, r3, r4⟩, ⟨c1, c2, c3, c4⟩, h8, h9⟩ := h
  have kp : ∀ a i, 247 ≤ a → a < M.1 → am_gt M' a i = am_gt M a i := fun a i x y => nm_gt_fr hF y (nm_lo_in hf x)
  have ty : ∀ a, a < M.1 → M'.2.2.1 a = M.2.2.1 a := hF.2.2.2.1
  have kd : ∀ a, a < M.1 → am_kd M' a = am_kd M a := fun a x => congrArg Prod.fst (ty a x)
  have ln : ∀ a, a < M.1 → am_ln M' a = am_ln M a := fun a x => congrArg Prod.snd (ty a x)
  have hm := hF.1
  have e1 : am_gt M' t 1 = am_gt M t 1 := kp t 1 h1 h2
  have e2 : am_gt M' t 2 = am_gt M t 2 := kp t 2 h1 h2
  have blk : ∀ i g, nm_Blk M (am_gt M t 1) i (nm_mN o) g → nm_Blk M' (am_gt M t 1) i (nm_mN o) g := by
    rintro i g ⟨c, j, ht, b1, b2, b3, b4, b5, b6⟩
    exact ⟨c, j, ht, b1, b2, b3, b4, by rw [ln _ r2]; exact b5, fun k x y => by rw [kp _ _ r1 r2]; exact b6 k x y⟩
  refine ⟨h1, by omega, by rw [kd t h2]; exact h3, by rw [kp t 0 h1 h2]; exact h4, h5, ?_, ?_, ?_, ?_⟩
  · rw [e1]; exact ⟨r1, by omega, by rw [kd _ r2]; exact r3, by rw [ln _ r2]; exact r4⟩
  · rw [e2]; exact ⟨c1, by omega, by rw [kd _ c2]; exact c3, by rw [ln _ c2]; exact c4⟩
  · rw [e2, ln _ c2]; exact h8
  · intro k hk
    obtain ⟨q0, q1, q2, q3, q4⟩ := h9 k hk
    unfold rc_tc
    rw [e1, e2, kp _ _ c1 c2, kp _ _ c1 c2, kp _ _ c1 c2, kp _ _ c1 c2, kp _ _ c1 c2]
    refine ⟨q0, fun h => blk _ _ (q1 h), fun h => blk _ _ (q2 h), q3, ?_⟩
    rcases q4 with q | ⟨g, x, y, zz⟩
    · exact .inl q
    · exact .inr ⟨g, x, y, blk _ _ zz⟩
/-- what reckon tells of a Text -/
theorem rc_rk {d : Nat} {a i : Int} {f : rd_F} {e : Int → Int} {M : am_M} {Q : List am_V → am_M → Prop} (hd : 2 ≤ d) (hL : nm_Lay M) (hr : nm_row M a) (hb : nm_Blk M a i 18 f) (he : ∀ k, 0 ≤ k → k < 18 → am_gt M 18 k = e k) (hbe : ∀ k, 0 ≤ k → k < 18 → nm_bd (e k)) (hQ : ∀ M', nm_Fr nm_kg M M' → Q [(0, nm_enc (f e))] M') : am_CL d 69 [(2, 17), (2, a), (0, i)] M Q := by
  obtain ⟨c, j, ht, b1, b2, b3, b4, b5, b6⟩ := hb
  obtain ⟨r1, r2, r3, r4⟩ := hr
  exact nmc_69 hd b1 b2 b3 ⟨hL, r3, r2, by omega, b4, b5, r4, b6, he, by decide, hbe⟩ hQ
theorem nm_C_W {M M' : am_M} {X : nm_X} {W : nm_W} (h : nm_C M X) (F : nm_Fr (nm_Wg 11) M M') (w : nm_CW M' 11 W) : nm_C M' (ns_W X W) := by
  obtain ⟨c1, c2, c3, c4, c5, c6, c7, c8, c9, c10, c11, c12⟩ := h
  have hL := c1.1
  refine ⟨nm_CA_fr c1 F (by decide +kernel) (by decide) (by decide) (by decide), w, nm_TX_fr c3 (by decide) hL F (by decide), nm_TX_fr c4 (by decide) hL F (by decide), nm_TX_fr c5 (by decide) hL F (by decide), ⟨?_, fun k => ?_⟩, ⟨?_, fun k => ?_⟩, nm_CU_fr (.inl rfl) c8 hL F (by decide +kernel), nm_CUp_fr c9 hL (by decide) F (by decide), nm_CP_fr c10 hL F (by decide) (by decide), nm_CR_fr c11 hL F (by decide), ?_⟩
  · rw [nm_gt_frn F hL (by decide) (by decide)]; exact c6.1
  · exact nm_CI_fr (c6.2 k) hL (by decide) (by decide) F (by decide +kernel) (by decide) (by decide) (by decide)
  · rw [nm_gt_frn F hL (by decide) (by decide)]; exact c7.1
  · exact nm_CI_fr (c7.2 k) hL (by decide) (by decide) F (by decide +kernel) (by decide) (by decide) (by decide)
  · rcases c12 with e' | e'
    · exact .inl e'
    · exact .inr (nm_CW_fr e' hL (by decide) F (by decide))
theorem nm_C_U {M M' : am_M} {X : nm_X} {U : List (Int × nm_W)} (h : nm_C M X) (F : nm_Fr (nm_Ug 34) M M') (w : nm_CU M' 34 U) : nm_C M' (ns_U X U) := by
  obtain ⟨c1, c2, c3, c4, c5, c6, c7, c8, c9, c10, c11, c12⟩ := h
  have hL := c1.1
  refine ⟨nm_CA_fr c1 F (by decide +kernel) (by decide +kernel) (by decide +kernel) (by decide +kernel), nm_CW_fr c2 hL (by decide) F (by decide +kernel), nm_TX_fr c3 (by decide) hL F (by decide +kernel), nm_TX_fr c4 (by decide) hL F (by decide +kernel), nm_TX_fr c5 (by decide) hL F (by decide +kernel), ⟨?_, fun k => ?_⟩, ⟨?_, fun k => ?_⟩, w, nm_CUp_fr c9 hL (by decide) F (by decide +kernel), nm_CP_fr c10 hL F (by decide +kernel) (by decide +kernel), nm_CR_fr c11 hL F (by decide +kernel), ?_⟩
  · rw [nm_gt_frn F hL (by decide) (by decide +kernel)]; exact c6.1
  · exact nm_CI_fr (c6.2 k) hL (by decide) (by decide) F (by decide +kernel) (by decide +kernel) (by decide +kernel) (by decide +kernel)
  · rw [nm_gt_frn F hL (by decide) (by decide +kernel)]; exact c7.1
  · exact nm_CI_fr (c7.2 k) hL (by decide) (by decide) F (by decide +kernel) (by decide +kernel) (by decide +kernel) (by decide +kernel)
  · rcases c12 with e' | e'
    · exact .inl e'
    · exact .inr (nm_CW_fr e' hL (by decide) F (by decide +kernel))
theorem nm_C_101 {M M' : am_M} {X : nm_X} (h : nm_C M X) (F : nm_Fr (nm_Ug 101) M M') (w : nm_CUp M' 101) : nm_C M' X := by
  obtain ⟨c1, c2, c3, c4, c5, c6, c7, c8, c9, c10, c11, c12⟩ := h
  have hL := c1.1
  refine ⟨nm_CA_fr c1 F (by decide +kernel) (by decide +kernel) (by decide +kernel) (by decide +kernel), nm_CW_fr c2 hL (by decide) F (by decide +kernel), nm_TX_fr c3 (by decide) hL F (by decide +kernel), nm_TX_fr c4 (by decide) hL F (by decide +kernel), nm_TX_fr c5 (by decide) hL F (by decide +kernel), ⟨?_, fun k => ?_⟩, ⟨?_, fun k => ?_⟩, nm_CU_fr (.inl rfl) c8 hL F (by decide +kernel), w, nm_CP_fr c10 hL F (by decide +kernel) (by decide +kernel), nm_CR_fr c11 hL F (by decide +kernel), ?_⟩
  · rw [nm_gt_frn F hL (by decide) (by decide +kernel)]; exact c6.1
  · exact nm_CI_fr (c6.2 k) hL (by decide) (by decide) F (by decide +kernel) (by decide +kernel) (by decide +kernel) (by decide +kernel)
  · rw [nm_gt_frn F hL (by decide) (by decide +kernel)]; exact c7.1
  · exact nm_CI_fr (c7.2 k) hL (by decide) (by decide) F (by decide +kernel) (by decide +kernel) (by decide +kernel) (by decide +kernel)
  · rcases c12 with e' | e'
    · exact .inl e'
    · exact .inr (nm_CW_fr e' hL (by decide) F (by decide +kernel))
