/-! WHAT IS KEPT UNDONE -/
theorem nm_WWdj {w v : Int} (hw : w ∈ nm_WL) (hv : v ∈ nm_WL) (h : w ≠ v) : nm_dj (nm_Wg w) (nm_Wg v) = true := by
  have := nm_Wall (P := fun v => decide (w = v) || nm_dj (nm_Wg w) (nm_Wg v)) (nm_Wall (P := fun w => nm_WL.all (fun v => decide (w = v) || nm_dj (nm_Wg w) (nm_Wg v))) (by decide +kernel) hw) hv
  rcases Bool.or_eq_true_iff.mp this with e | e
  · exact absurd (of_decide_eq_true e) h
  · exact e
def nm_W0 : nm_W := (0, [], fun _ => 0, fun _ => 0)
def nm_u0 : Int × nm_W := (0, nm_W0)
def nm_UL (u : Int) : List Int := (List.range 16).map (fun j : Nat => u + 3 + 4 * (j : Int))
def nm_Ug (u : Int) : nm_Rg := [(u, 0, 1), (u + 1, 0, 16), (u + 2, 0, 16)] ++ (nm_UL u).flatMap nm_Wg
def nm_CUp (M : am_M) (u : Int) : Prop := (∀ i, 0 ≤ i → i < 16 → am_gt M (u + 2) i ∈ nm_UL u) ∧ (∀ i j, 0 ≤ i → i < 16 → 0 ≤ j → j < 16 → am_gt M (u + 2) i = am_gt M (u + 2) j → i = j)
def nm_CU (M : am_M) (u : Int) (U : List (Int × nm_W)) : Prop := nm_CUp M u ∧ am_gt M u 0 = (U.length : Int) ∧ U.length ≤ 16 ∧ ∀ k : Nat, k < U.length → am_gt M (u + 1) (k : Int) = (U.getD k nm_u0).1 ∧ nm_CW M (am_gt M (u + 2) (k : Int)) (U.getD k nm_u0).2
theorem nm_ULWL {u : Int} (hu : u = 34 ∨ u = 101) {w : Int} (h : w ∈ nm_UL u) : w ∈ nm_WL := by
  rcases hu with rfl | rfl
  · exact of_decide_eq_true (List.all_eq_true.mp (show (nm_UL 34).all (fun w => decide (w ∈ nm_WL)) = true by decide +kernel) w h)
  · exact of_decide_eq_true (List.all_eq_true.mp (show (nm_UL 101).all (fun w => decide (w ∈ nm_WL)) = true by decide +kernel) w h)
theorem nm_Ug_W {u : Int} {w : Int} (h : w ∈ nm_UL u) {a i : Int} (hi : nm_in (nm_Wg w) a i = true) : nm_in (nm_Ug u) a i = true := by
  obtain ⟨q, hq, h1, h2, h3⟩ := nm_in_iff.mp hi
  refine nm_in_mem (q := q) ?_ h1 h2 h3
  unfold nm_Ug
  exact List.mem_append_right _ (List.mem_flatMap.mpr ⟨w, h, hq⟩)
theorem nm_Fr_Ug {u w : Int} {M M' M'' : am_M} (F : nm_Fr (nm_Ug u) M M') (h : w ∈ nm_UL u) (F' : nm_Fr (nm_Wg w) M' M'') : nm_Fr (nm_Ug u) M M'' := by
  refine nm_Fr_trans F ?_
  obtain ⟨a1, a2, a3, a4, a5⟩ := F'
  refine ⟨a1, a2, a3, a4, fun a i ha hi => a5 a i ha ?_⟩
  rw [Bool.eq_false_iff]
  intro hc
  rw [nm_Ug_W h hc] at hi
  cases hi
/-- a Works apart from all that are kept -/
theorem nm_UgW {u w : Int} (hu : u = 34 ∨ u = 101) (hw : w ∈ nm_WL) (hn : w ∉ nm_UL u) : nm_dj (nm_Ug u) (nm_Wg w) = true := by
  have key : nm_WL.all (fun w => decide (w ∈ nm_UL 34) || nm_dj (nm_Ug 34) (nm_Wg w)) = true ∧ nm_WL.all (fun w => decide (w ∈ nm_UL 101) || nm_dj (nm_Ug 101) (nm_Wg w)) = true := by decide +kernel
  rcases hu with rfl | rfl
  · rcases Bool.or_eq_true_iff.mp (nm_Wall key.1 hw) with e | e
    · exact absurd (of_decide_eq_true e) hn
    · exact e
  · rcases Bool.or_eq_true_iff.mp (nm_Wall key.2 hw) with e | e
    · exact absurd (of_decide_eq_true e) hn
    · exact e
theorem nm_LayU {u : Int} (hu : u = 34 ∨ u = 101) {M M' : am_M} (hL : nm_Lay M) (F : nm_Fr (nm_Ug u) M M') : nm_Lay M' := by
  rcases hu with rfl | rfl
  · exact nm_Lay_fr hL F (by decide +kernel)
  · exact nm_Lay_fr hL F (by decide +kernel)
theorem nm_CUp_kp {u : Int} {M M' : am_M} (h : nm_CUp M u) (hk : ∀ i, 0 ≤ i → i < 16 → am_gt M' (u + 2) i = am_gt M (u + 2) i) : nm_CUp M' u := by
  obtain ⟨h1, h2⟩ := h
  refine ⟨fun i a b => ?_, fun i j a b c e x => ?_⟩
  · rw [hk i a b]; exact h1 i a b
  · rw [hk i a b, hk j c e] at x; exact h2 i j a b c e x
theorem nm_CUp_fr {n s : Int} {f : nm_Rg} {u : Int} {M M' : am_M} (h : nm_CUp M u) (hL : nm_Lay M) (hu : u + 2 < 247) (hF : nm_Fg n s f M M') (hn : nm_no f (u + 2) = true) : nm_CUp M' u := nm_CUp_kp h (fun i _ _ => nm_gt_frn hF hL hu hn)
theorem nm_CU_fr {n s : Int} {f : nm_Rg} {u : Int} (hu : u = 34 ∨ u = 101) {M M' : am_M} {U : List (Int × nm_W)} (h : nm_CU M u U) (hL : nm_Lay M) (hF : nm_Fg n s f M M') (hd : nm_dj f (nm_Ug u) = true) : nm_CU M' u U := by
  obtain ⟨h1, h2, h3, h4⟩ := h
  have hb : u + 2 < 247 := by omega
  have kp : ∀ a i, a < 247 → nm_in (nm_Ug u) a i = true → am_gt M' a i = am_gt M a i := fun a i e c => nm_gt_frd hF hL e hd c
  have k2 : ∀ i, 0 ≤ i → i < 16 → am_gt M' (u + 2) i = am_gt M (u + 2) i := fun i a b => kp _ _ hb (nm_in_c (lo := 0) (hi := 16) (by unfold nm_Ug; simp only [List.mem_append, List.mem_cons, true_or, or_true]) a b)
  refine ⟨nm_CUp_kp h1 k2, ?_, h3, fun k hk => ?_⟩
  · rw [kp u 0 (by omega) (nm_in_c (lo := 0) (hi := 1) (by unfold nm_Ug; simp only [List.mem_append, List.mem_cons, true_or]) (by decide) (by decide))]; exact h2
  · obtain ⟨q1, q2⟩ := h4 k hk
    rw [k2 k (by omega) (by omega), kp (u + 1) k (by omega) (nm_in_c (lo := 0) (hi := 16) (by unfold nm_Ug; simp only [List.mem_append, List.mem_cons, true_or, or_true]) (by omega) (by omega))]
    have hm := h1.1 k (by omega) (by omega)
    refine ⟨q1, nm_CW_kp q2 (fun a i hi => kp a i ?_ (nm_Ug_W hm hi))⟩
    have hb := nm_Wb (nm_ULWL hu hm)
    obtain ⟨q, hq, e1, e2, e3⟩ := nm_in_iff.mp hi
    simp only [nm_Wg, List.mem_cons, List.not_mem_nil, or_false] at hq
    rcases hq with rfl | rfl | rfl | rfl <;> simp only at e1 <;> omega
theorem nm_getD_u {U : List (Int × nm_W)} {k : Nat} (hk : k < U.length) : U.getD k nm_u0 = U[k] := by rw [List.getD_eq_getElem?_getD, List.getElem?_eq_getElem hk]; rfl
/-- the oldest one dropped -/
theorem nmc_132 {d : Nat} {U : List (Int × nm_W)} {M : am_M} {Q : List am_V → am_M → Prop} (hL : nm_Lay M) (hU : nm_CU M 34 U) (h16 : U.length = 16) (hQ : ∀ M', nm_Fr (nm_Ug 34) M M' → nm_CU M' 34 (U.drop 1) → Q [] M') : am_CL d 132 [(2, 34)] M Q := by
  obtain ⟨⟨p1, p2⟩, u0, u1, u2⟩ := hU
  have wl : ∀ i, 0 ≤ i → i < 16 → am_gt M 36 i ∈ nm_WL := fun i a b => nm_ULWL (.inl rfl) (p1 i a b)
  have kd : ∀ {M1 : am_M} i, 0 ≤ i → i < 16 → nm_Fr [(35, 0, 16), (36, 0, 16)] M M1 → am_kd M1 (am_gt M 36 i) = 7 := fun i a b F => nm_Wk (nm_Lay_fr hL F (by decide +kernel)) (wl i a b)
  refine h_132_0 hL ?_
  have key : ∀ k : Nat, k ≤ 15 → ∀ M1, nm_Fr [(35, 0, 16), (36, 0, 16)] M M1 → (∀ j, 0 ≤ j → j < 16 → am_gt M1 36 j = if j < (k : Int) then am_gt M 36 (j + 1) else am_gt M 36 j) → (∀ j, 0 ≤ j → j < 16 → am_gt M1 35 j = if j < (k : Int) then am_gt M 35 (j + 1) else am_gt M 35 j) → am_WP d am_c132 9 [(2, 34), (2, am_gt M 36 0), (0, (k : Int) + 1)] [] M1 Q := by
    refine nm_dn ?_
    intro k hk ih M1 F a1 a2
    have hL1 := nm_Lay_fr hL F (by decide +kernel)
    refine h_132_9 hL1 ⟨fun h => ⟨.inr (kd 0 (by decide) (by decide) F), ?_⟩, fun h => ?_⟩
    · have hk15 : k = 15 := by omega
      subst hk15
      have FF : nm_Fr (nm_Ug 34) M (am_st (am_st M1 36 15 (am_gt M 36 0)) 34 0 15) := nm_Fr_st (nm_Fr_st (nm_Fr_sub F (by decide +kernel)) (by decide +kernel)) (by decide +kernel)
      have g36 : ∀ j, 0 ≤ j → j < 16 → am_gt (am_st (am_st M1 36 15 (am_gt M 36 0)) 34 0 15) 36 j = if j < 15 then am_gt M 36 (j + 1) else am_gt M 36 0 := by
        intro j j0 j1
        rw [nm_st_ne (by decide), nm_gt_st]
        by_cases hj : j = 15
        · subst hj; rw [if_pos ⟨rfl, rfl⟩, if_neg (by decide)]
        · rw [if_neg (fun c => hj c.2), a1 j j0 j1, if_pos (by omega), if_pos (by omega)]
      refine hQ _ FF ⟨⟨fun i x y => ?_, fun i j x y x' y' e => ?_⟩, ?_, ?_, fun i hi => ?_⟩
      · show am_gt _ 36 i ∈ _
        rw [g36 i x y]
        by_cases hi : i < 15
        · rw [if_pos hi]; exact p1 _ (by omega) (by omega)
        · rw [if_neg hi]; exact p1 _ (by decide) (by decide)
      · have e' : am_gt (am_st (am_st M1 36 15 (am_gt M 36 0)) 34 0 15) 36 i = am_gt (am_st (am_st M1 36 15 (am_gt M 36 0)) 34 0 15) 36 j := e
        rw [g36 i x y, g36 j x' y'] at e'
        by_cases hi : i < 15 <;> by_cases hj : j < 15
        · rw [if_pos hi, if_pos hj] at e'; have := p2 (i + 1) (j + 1) (by omega) (by omega) (by omega) (by omega) e'; omega
        · rw [if_pos hi, if_neg hj] at e'; have := p2 (i + 1) 0 (by omega) (by omega) (by omega) (by omega) e'; omega
        · rw [if_neg hi, if_pos hj] at e'; have := p2 0 (j + 1) (by omega) (by omega) (by omega) (by omega) e'; omega
        · omega
      · rw [nm_st_eq, List.length_drop, h16]; rfl
      · rw [List.length_drop]; omega
      · rw [List.length_drop, h16] at hi
        show am_gt _ 35 _ = _ ∧ nm_CW _ (am_gt _ 36 _) _
        have hx : (U.drop 1).getD i nm_u0 = U.getD (i + 1) nm_u0 := by
          rw [List.getD_eq_getElem?_getD, List.getElem?_drop, List.getD_eq_getElem?_getD, Nat.add_comm 1 i]
        obtain ⟨q1, q2⟩ := u2 (i + 1) (by omega)
        rw [g36 i (by omega) (by omega), if_pos (by omega), hx, nm_st_ne (by decide), nm_st_ne (by decide), a2 i (by omega) (by omega), if_pos (by omega)]
        have hci : ((i + 1 : Nat) : Int) = (i : Int) + 1 := by omega
        rw [hci] at q1 q2
        refine ⟨q1, ?_⟩
        have F3 : nm_Fr [(34, 0, 1), (35, 0, 16), (36, 0, 16)] M (am_st (am_st M1 36 15 (am_gt M 36 0)) 34 0 15) := nm_Fr_st (nm_Fr_st (nm_Fr_sub F (by decide)) (by decide)) (by decide)
        exact nm_CW_fr q2 hL (wl _ (by omega) (by omega)) F3 (nm_Wall (P := fun w => nm_dj [(34, 0, 1), (35, 0, 16), (36, 0, 16)] (nm_Wg w)) (by decide +kernel) (wl _ (by omega) (by omega)))
    · have hk15 : k < 15 := by omega
      rw [am_w_id (x := (k : Int) + 1 - 1) (by omega) (by omega), am_w_id (x := (k : Int) + 1 + 1) (by omega) (by omega), show (k : Int) + 1 - 1 = (k : Int) by omega]
      have e1 : am_gt M1 36 ((k : Int) + 1) = am_gt M 36 ((k : Int) + 1) := by rw [a1 _ (by omega) (by omega), if_neg (by omega)]
      have e2 : am_gt M1 35 ((k : Int) + 1) = am_gt M 35 ((k : Int) + 1) := by rw [a2 _ (by omega) (by omega), if_neg (by omega)]
      rw [e1, e2]
      refine ⟨by omega, by omega, by omega, by omega, .inr (kd _ (by omega) (by omega) F), ?_⟩
      have hc : ((k + 1 : Nat) : Int) = (k : Int) + 1 := by omega
      have := ih hk15 (am_st (am_st M1 36 (k : Int) (am_gt M 36 ((k : Int) + 1))) 35 (k : Int) (am_gt M 35 ((k : Int) + 1))) (nm_Fr_st (nm_Fr_st F (nm_in_c (lo := 0) (hi := 16) (by decide) (by omega) (by omega))) (nm_in_c (lo := 0) (hi := 16) (by decide) (by omega) (by omega))) (fun j j0 j1 => by
        rw [nm_st_ne (by decide), nm_gt_st]
        by_cases hj : j = (k : Int)
        · subst hj; rw [if_pos ⟨rfl, rfl⟩, if_pos (by omega)]
        · rw [if_neg (fun c => hj c.2), a1 j j0 j1]
          by_cases h2 : j < (k : Int)
          · rw [if_pos h2, if_pos (by omega)]
          · rw [if_neg h2, if_neg (by omega)]) (fun j j0 j1 => by
        rw [nm_gt_st]
        by_cases hj : j = (k : Int)
        · subst hj; rw [if_pos ⟨rfl, rfl⟩, if_pos (by omega)]
        · rw [if_neg (fun c => hj c.2), nm_st_ne (by decide), a2 j j0 j1]
          by_cases h2 : j < (k : Int)
          · rw [if_pos h2, if_pos (by omega)]
          · rw [if_neg h2, if_neg (by omega)])
      rw [hc] at this
      exact this
  exact key 0 (Nat.zero_le _) M (nm_Fg_refl _ _) (fun j j0 _ => by rw [if_neg (by omega)]) (fun j j0 _ => by rw [if_neg (by omega)])
/-- one more is kept -/
def nm_keep (U : List (Int × nm_W)) (k : Int) (W : nm_W) : List (Int × nm_W) := (if U.length = 16 then U.drop 1 else U) ++ [(k, W)]
theorem nmc_131 {d : Nat} {kind : Int} {W : nm_W} {U : List (Int × nm_W)} {M : am_M} {Q : List am_V → am_M → Prop} (hd : 2 ≤ d) (hL : nm_Lay M) (hU : nm_CU M 34 U) (hW : nm_CW M 168 W) (hQ : ∀ M', nm_Fr (nm_Ug 34) M M' → nm_CU M' 34 (nm_keep U kind W) → Q [] M') : am_CL d 131 [(2, 34), (0, kind), (2, 168)] M Q := by
  have w168 : (168 : Int) ∈ nm_WL := by decide
  have fin : ∀ (M1 : am_M) (U1 : List (Int × nm_W)), nm_Fr (nm_Ug 34) M M1 → nm_CU M1 34 U1 → U1.length < 16 → nm_keep U kind W = U1 ++ [(kind, W)] → am_WP d am_c131 13 [(2, 34), (0, kind), (2, 168)] [] M1 Q := by
    intro M1 U1 F hU1 hl ek
    have hL1 := nm_LayU (.inl rfl) hL F
    have hW1 := nm_CW_fr hW hL w168 F (nm_UgW (.inl rfl) w168 (by decide))
    have hU1' := hU1
    obtain ⟨⟨p1, p2⟩, u0, u1, u2⟩ := hU1
    have hm := p1 (U1.length : Int) (by omega) (by omega)
    have hmW := nm_ULWL (.inl rfl) hm
    have hm168 : am_gt M1 36 (U1.length : Int) ≠ 168 := fun e => absurd (show (168 : Int) ∈ nm_UL 34 from e ▸ hm) (by decide)
    have F2 : nm_Fr (nm_Ug 34) M1 (am_st M1 35 (U1.length : Int) kind) := nm_Fr_st (nm_Fg_refl _ _) (nm_in_c (lo := 0) (hi := 16) (by decide +kernel) (by omega) (by omega))
    have F2' : nm_Fr [(35, 0, 16)] M1 (am_st M1 35 (U1.length : Int) kind) := nm_Fr_st (nm_Fg_refl _ _) (nm_in_c (lo := 0) (hi := 16) (by decide) (by omega) (by omega))
    have hL2 := nm_LayU (.inl rfl) hL1 F2
    have hW2 := nm_CW_fr hW1 hL1 w168 F2' (by decide)
    refine h_131_13 hL1 w168 ?_
    rw [u0]
    refine ⟨by omega, by omega, nm_Wk hL2 hmW, by omega, nmc_136 (by omega) hL2 hmW w168 hm168 hW2 (fun M3 F3 hW3 => ?_)⟩
    have F13 := nm_Fr_Ug F2 hm F3
    have hL3 := nm_LayU (.inl rfl) hL1 F13
    have no3 : ∀ c, c = 34 ∨ c = 35 ∨ c = 36 → nm_no (nm_Wg (am_gt M1 36 (U1.length : Int))) c = true := by
      intro c hc
      rcases hc with rfl | rfl | rfl
      · exact nm_Wall (P := fun w => nm_no (nm_Wg w) 34) (by decide +kernel) hmW
      · exact nm_Wall (P := fun w => nm_no (nm_Wg w) 35) (by decide +kernel) hmW
      · exact nm_Wall (P := fun w => nm_no (nm_Wg w) 36) (by decide +kernel) hmW
    have g34 : am_gt M3 34 0 = (U1.length : Int) := by rw [nm_gt_frn F3 hL2 (by decide) (no3 34 (.inl rfl)), nm_st_ne (by decide)]; exact u0
    have g36 : ∀ j, am_gt M3 36 j = am_gt M1 36 j := fun j => by rw [nm_gt_frn F3 hL2 (by decide) (no3 36 (.inr (.inr rfl))), nm_st_ne (by decide)]
    have g35 : ∀ j, am_gt M3 35 j = if j = (U1.length : Int) then kind else am_gt M1 35 j := fun j => by
      rw [nm_gt_frn F3 hL2 (by decide) (no3 35 (.inr (.inl rfl))), nm_gt_st]
      by_cases hj : j = (U1.length : Int)
      · rw [if_pos ⟨rfl, hj⟩, if_pos hj]
      · rw [if_neg (fun c => hj c.2), if_neg hj]
    refine h_131_36 hL3 w168 ?_
    rw [g34, am_w_id (by omega) (by omega)]
    have F4 : nm_Fr (nm_Ug 34) M (am_st M3 34 0 ((U1.length : Int) + 1)) := nm_Fr_st (nm_Fr_trans F F13) (by decide +kernel)
    refine hQ _ F4 ?_
    rw [ek]
    have hlen : (U1 ++ [(kind, W)]).length = U1.length + 1 := by rw [List.length_append]; rfl
    have F34 : nm_Fr [(34, 0, 1)] M3 (am_st M3 34 0 ((U1.length : Int) + 1)) := nm_Fr_st (nm_Fg_refl _ _) (by decide)
    refine ⟨⟨fun i x y => ?_, fun i j x y x' y' e => ?_⟩, ?_, by omega, fun k hk => ?_⟩
    · show am_gt (am_st M3 34 0 _) 36 i ∈ _
      rw [nm_st_ne (by decide), g36]; exact p1 i x y
    · have e' : am_gt (am_st M3 34 0 ((U1.length : Int) + 1)) 36 i = am_gt (am_st M3 34 0 ((U1.length : Int) + 1)) 36 j := e
      rw [nm_st_ne (by decide), nm_st_ne (by decide), g36, g36] at e'
      exact p2 i j x y x' y' e'
    · rw [nm_st_eq, hlen]; omega
    · rw [hlen] at hk
      show am_gt (am_st M3 34 0 _) 35 _ = _ ∧ nm_CW _ (am_gt (am_st M3 34 0 _) 36 _) _
      rw [nm_st_ne (by decide), nm_st_ne (by decide), g36, g35]
      have hkW := nm_ULWL (.inl rfl) (p1 (k : Int) (by omega) (by omega))
      have d34 := nm_Wall (P := fun w => nm_dj [(34, 0, 1)] (nm_Wg w)) (by decide +kernel) hkW
      by_cases hkl : k = U1.length
      · have hx : (U1 ++ [(kind, W)]).getD k nm_u0 = (kind, W) := by rw [hkl, List.getD_eq_getElem?_getD, List.getElem?_concat_length]; rfl
        rw [hx, if_pos (by omega)]
        refine ⟨rfl, nm_CW_fr ?_ hL3 hkW F34 d34⟩
        rw [hkl]; exact hW3
      · have hx : (U1 ++ [(kind, W)]).getD k nm_u0 = U1.getD k nm_u0 := by rw [List.getD_eq_getElem?_getD, List.getD_eq_getElem?_getD, List.getElem?_append_left (by omega)]
        rw [hx, if_neg (by omega)]
        obtain ⟨q1, q2⟩ := u2 k (by omega)
        refine ⟨q1, nm_CW_fr (nm_CW_fr (nm_CW_fr q2 hL1 hkW F2' (nm_Wall (P := fun w => nm_dj [(35, 0, 16)] (nm_Wg w)) (by decide +kernel) hkW)) hL2 hkW F3 (nm_WWdj hmW hkW (fun e => ?_))) hL3 hkW F34 d34⟩
        have := p2 (U1.length : Int) (k : Int) (by omega) (by omega) (by omega) (by omega) e
        omega
  have hlen := hU.2.2.1
  refine h_131_0 hL w168 ⟨fun h => ?_, fun h => ⟨by omega, nmc_132 hL hU ?_ (fun M1 F1 U1 => ?_)⟩⟩
  · rw [hU.2.1] at h
    exact fin M U (nm_Fg_refl _ _) hU (by omega) (by unfold nm_keep; rw [if_neg (by omega)])
  · rw [hU.2.1] at h; omega
  · rw [hU.2.1] at h
    exact fin M1 (U.drop 1) F1 U1 (by rw [List.length_drop]; omega) (by unfold nm_keep; rw [if_pos (by omega)])
/-- the newest one brought again -/
theorem nmc_133 {d : Nat} {U : List (Int × nm_W)} {M : am_M} {Q : List am_V → am_M → Prop} (hd : 2 ≤ d) (hL : nm_Lay M) (hU : nm_CU M 34 U) (h0 : U = [] → Q [(0, -1)] M) (hQ : ∀ U0 k W M', U = U0 ++ [(k, W)] → nm_Fr ([(34, 0, 1)] ++ nm_Wg 11) M M' → nm_CU M' 34 U0 → nm_CW M' 11 W → Q [(0, k)] M') : am_CL d 133 [(2, 34), (2, 11)] M Q := by
  have w11 : (11 : Int) ∈ nm_WL := by decide
  have hU' := hU
  obtain ⟨⟨p1, p2⟩, u0, u1, u2⟩ := hU
  refine h_133_0 hL w11 ⟨fun h => ?_, fun h => h0 (List.eq_nil_of_length_eq_zero (by omega))⟩
  rw [u0] at h ⊢
  obtain ⟨n, hn⟩ : ∃ n, U.length = n + 1 := ⟨U.length - 1, by omega⟩
  rw [am_w_id (by omega) (by omega), show (U.length : Int) - 1 = (n : Int) by omega]
  have F1 : nm_Fr ([(34, 0, 1)] ++ nm_Wg 11) M (am_st M 34 0 (n : Int)) := nm_Fr_st (nm_Fg_refl _ _) (by decide)
  have F1' : nm_Fr [(34, 0, 1)] M (am_st M 34 0 (n : Int)) := nm_Fr_st (nm_Fg_refl _ _) (by decide)
  have hL1 := nm_Lay_fr hL F1' (by decide +kernel)
  have hm := p1 (n : Int) (by omega) (by omega)
  have hmW := nm_ULWL (.inl rfl) hm
  obtain ⟨q1, q2⟩ := u2 n (by omega)
  have q2' := nm_CW_fr q2 hL hmW F1' (nm_Wall (P := fun w => nm_dj [(34, 0, 1)] (nm_Wg w)) (by decide +kernel) hmW)
  have hne : (11 : Int) ≠ am_gt M 36 (n : Int) := fun e => absurd (show (11 : Int) ∈ nm_UL 34 from e ▸ hm) (by decide)
  refine ⟨by omega, by omega, by omega, nmc_136 (by omega) hL1 w11 hmW hne q2' (fun M2 F2 hW2 => ?_)⟩
  have hL2 := nm_Lay_fr hL1 F2 (by decide +kernel)
  have g34 : am_gt M2 34 0 = (n : Int) := by rw [nm_gt_frn F2 hL1 (by decide) (by decide), nm_st_eq]
  refine h_133_32 hL2 w11 ?_
  rw [g34, nm_gt_frn F2 hL1 (by decide) (by decide), nm_st_ne (by decide)]
  have q1' : am_gt M 35 (n : Int) = _ := q1
  rw [q1']
  refine ⟨by omega, by omega, ?_⟩
  have hU0 : U = U.take n ++ [U.getD n nm_u0] := by
    rw [nm_getD_u (by omega), List.take_append_getElem, List.take_of_length_le (by omega)]
  refine hQ (U.take n) (U.getD n nm_u0).1 (U.getD n nm_u0).2 M2 hU0 (nm_Fr_trans F1 (nm_Fr_appr F2)) ?_ hW2
  have U1 : nm_CU (am_st M 34 0 (n : Int)) 34 (U.take n) := by
    refine ⟨⟨fun i x y => ?_, fun i j x y x' y' e => ?_⟩, ?_, ?_, fun k hk => ?_⟩
    · rw [nm_st_ne (by decide)]; exact p1 i x y
    · rw [nm_st_ne (by decide), nm_st_ne (by decide)] at e; exact p2 i j x y x' y' e
    · rw [nm_st_eq, List.length_take]; omega
    · rw [List.length_take]; omega
    · rw [List.length_take] at hk
      obtain ⟨r1, r2⟩ := u2 k (by omega)
      have hkW := nm_ULWL (.inl rfl) (p1 (k : Int) (by omega) (by omega))
      have hx : (U.take n).getD k nm_u0 = U.getD k nm_u0 := by rw [List.getD_eq_getElem?_getD, List.getElem?_take, if_pos (by omega), List.getD_eq_getElem?_getD]
      rw [hx, nm_st_ne (by decide), nm_st_ne (by decide)]
      exact ⟨r1, nm_CW_fr r2 hL hkW F1' (nm_Wall (P := fun w => nm_dj [(34, 0, 1)] (nm_Wg w)) (by decide +kernel) hkW)⟩
  exact nm_CU_fr (.inl rfl) U1 hL1 F2 (by decide +kernel)
theorem nmc_134_101 {d : Nat} {U : List (Int × nm_W)} {M : am_M} {Q : List am_V → am_M → Prop} (hd : 2 ≤ d) (hL : nm_Lay M) (hU : nm_CU M 34 U) (hP : nm_CUp M 101) (hQ : ∀ M', nm_Fr (nm_Ug 101) M M' → nm_CU M' 101 U → Q [] M') : am_CL d 134 [(2, 101), (2, 34)] M Q := by
  have hu : (101 : Int) = 34 ∨ (101 : Int) = 101 := by decide
  have hv : (34 : Int) = 34 ∨ (34 : Int) = 101 := by decide
  have hU0 := hU
  obtain ⟨-, u0, u1, -⟩ := hU
  refine h_101_34_134_0 hL ?_
  rw [u0]
  have key : ∀ k : Nat, k ≤ U.length → ∀ M1, nm_Fr (nm_Ug 101) M M1 → am_gt M1 101 0 = (U.length : Int) → (∀ j, am_gt M1 103 j = am_gt M 103 j) → (∀ i : Nat, i < k → am_gt M1 102 (i : Int) = (U.getD i nm_u0).1 ∧ nm_CW M1 (am_gt M 103 (i : Int)) (U.getD i nm_u0).2) → am_WP d am_c134 10 [(2, 101), (2, 34), (0, (k : Int))] [] M1 Q := by
    refine nm_dn ?_
    intro k hk ih M1 F a0 a2 a3
    have hL1 := nm_LayU hu hL F
    have hV1 := nm_CU_fr hv hU0 hL F (by decide +kernel)
    refine h_101_34_134_10 hL1 ?_
    rw [a0]
    refine ⟨fun h => ?_, fun h => ?_⟩
    · refine hQ M1 F ⟨nm_CUp_kp hP (fun i _ _ => a2 i), a0, u1, fun i hi => ?_⟩
      show am_gt M1 102 _ = _ ∧ nm_CW M1 (am_gt M1 103 _) _
      rw [a2]; exact a3 i (by omega)
    · have hkl : k < U.length := by omega
      obtain ⟨⟨v1, v2⟩, -, -, v4⟩ := hV1
      obtain ⟨q1, q2⟩ := v4 k hkl
      have hm := hP.1 (k : Int) (by omega) (by omega)
      have hm : am_gt M 103 (k : Int) ∈ nm_UL 101 := hm
      have hmW := nm_ULWL hu hm
      have hs := v1 (k : Int) (by omega) (by omega)
      have hs : am_gt M1 36 (k : Int) ∈ nm_UL 34 := hs
      have hsW := nm_ULWL hv hs
      have q1 : am_gt M1 35 (k : Int) = _ := q1
      have q2 : nm_CW M1 (am_gt M1 36 (k : Int)) _ := q2
      have hne : am_gt M 103 (k : Int) ≠ am_gt M1 36 (k : Int) := by
        intro e
        have hx := (show (nm_UL 101).all (fun w => !(decide (w ∈ nm_UL 34))) = true by decide +kernel)
        have := List.all_eq_true.mp hx _ hm
        rw [e] at this
        simp [hs] at this
      rw [a2, q1]
      have F2 : nm_Fr [(102, 0, 16)] M1 (am_st M1 102 (k : Int) (U.getD k nm_u0).1) := nm_Fr_st (nm_Fg_refl _ _) (nm_in_c (lo := 0) (hi := 16) (by decide) (by omega) (by omega))
      have FU := nm_Fr_trans F (nm_Fr_sub F2 (g := nm_Ug 101) (by decide +kernel))
      have hL2 := nm_LayU hu hL FU
      have q2' := nm_CW_fr q2 hL1 hsW F2 (nm_Wall (P := fun w => nm_dj [(102, 0, 16)] (nm_Wg w)) (by decide +kernel) hsW)
      refine ⟨by omega, by omega, nm_Wk hL2 hmW, by omega, nmc_136 (by omega) hL2 hmW hsW hne q2' (fun M3 F3 hW3 => ?_)⟩
      have F03 := nm_Fr_Ug FU hm F3
      have hL3 := nm_LayU hu hL F03
      refine h_101_34_134_45 hL3 ?_
      rw [nm_wk (by omega)]
      refine ih hkl M3 F03 ?_ (fun j => ?_) (fun i hi => ?_)
      · rw [nm_gt_frn F3 hL2 (by decide) (nm_Wall (P := fun w => nm_no (nm_Wg w) 101) (by decide +kernel) hmW), nm_st_ne (by decide)]; exact a0
      · rw [nm_gt_frn F3 hL2 (by decide) (nm_Wall (P := fun w => nm_no (nm_Wg w) 103) (by decide +kernel) hmW), nm_st_ne (by decide)]; exact a2 j
      · rw [nm_gt_frn F3 hL2 (by decide) (nm_Wall (P := fun w => nm_no (nm_Wg w) 102) (by decide +kernel) hmW), nm_gt_st]
        by_cases hik : i = k
        · subst hik
          rw [if_pos ⟨rfl, rfl⟩]; exact ⟨rfl, hW3⟩
        · rw [if_neg (fun c => hik (by have := c.2; omega))]
          obtain ⟨r1, r2⟩ := a3 i (by omega)
          have hiW := nm_ULWL hu (show am_gt M 103 (i : Int) ∈ nm_UL 101 from hP.1 (i : Int) (by omega) (by omega))
          refine ⟨r1, nm_CW_fr (nm_CW_fr r2 hL1 hiW F2 (nm_Wall (P := fun w => nm_dj [(102, 0, 16)] (nm_Wg w)) (by decide +kernel) hiW)) hL2 hiW F3 (nm_WWdj hmW hiW (fun e => ?_))⟩
          have := hP.2 (k : Int) (i : Int) (by omega) (by omega) (by omega) (by omega) e
          omega
  exact key 0 (Nat.zero_le _) _ (nm_Fr_st (nm_Fg_refl _ _) (by decide +kernel)) nm_st_eq (fun j => by rw [nm_st_ne (by decide)]) (fun i hi => absurd hi (by omega))
theorem nmc_134_34 {d : Nat} {U : List (Int × nm_W)} {M : am_M} {Q : List am_V → am_M → Prop} (hd : 2 ≤ d) (hL : nm_Lay M) (hU : nm_CU M 101 U) (hP : nm_CUp M 34) (hQ : ∀ M', nm_Fr (nm_Ug 34) M M' → nm_CU M' 34 U → Q [] M') : am_CL d 134 [(2, 34), (2, 101)] M Q := by
  have hu : (34 : Int) = 34 ∨ (34 : Int) = 101 := by decide
  have hv : (101 : Int) = 34 ∨ (101 : Int) = 101 := by decide
  have hU0 := hU
  obtain ⟨-, u0, u1, -⟩ := hU
  refine h_34_101_134_0 hL ?_
  rw [u0]
  have key : ∀ k : Nat, k ≤ U.length → ∀ M1, nm_Fr (nm_Ug 34) M M1 → am_gt M1 34 0 = (U.length : Int) → (∀ j, am_gt M1 36 j = am_gt M 36 j) → (∀ i : Nat, i < k → am_gt M1 35 (i : Int) = (U.getD i nm_u0).1 ∧ nm_CW M1 (am_gt M 36 (i : Int)) (U.getD i nm_u0).2) → am_WP d am_c134 10 [(2, 34), (2, 101), (0, (k : Int))] [] M1 Q := by
    refine nm_dn ?_
    intro k hk ih M1 F a0 a2 a3
    have hL1 := nm_LayU hu hL F
    have hV1 := nm_CU_fr hv hU0 hL F (by decide +kernel)
    refine h_34_101_134_10 hL1 ?_
    rw [a0]
    refine ⟨fun h => ?_, fun h => ?_⟩
    · refine hQ M1 F ⟨nm_CUp_kp hP (fun i _ _ => a2 i), a0, u1, fun i hi => ?_⟩
      show am_gt M1 35 _ = _ ∧ nm_CW M1 (am_gt M1 36 _) _
      rw [a2]; exact a3 i (by omega)
    · have hkl : k < U.length := by omega
      obtain ⟨⟨v1, v2⟩, -, -, v4⟩ := hV1
      obtain ⟨q1, q2⟩ := v4 k hkl
      have hm := hP.1 (k : Int) (by omega) (by omega)
      have hm : am_gt M 36 (k : Int) ∈ nm_UL 34 := hm
      have hmW := nm_ULWL hu hm
      have hs := v1 (k : Int) (by omega) (by omega)
      have hs : am_gt M1 103 (k : Int) ∈ nm_UL 101 := hs
      have hsW := nm_ULWL hv hs
      have q1 : am_gt M1 102 (k : Int) = _ := q1
      have q2 : nm_CW M1 (am_gt M1 103 (k : Int)) _ := q2
      have hne : am_gt M 36 (k : Int) ≠ am_gt M1 103 (k : Int) := by
        intro e
        have hx := (show (nm_UL 34).all (fun w => !(decide (w ∈ nm_UL 101))) = true by decide +kernel)
        have := List.all_eq_true.mp hx _ hm
        rw [e] at this
        simp [hs] at this
      rw [a2, q1]
      have F2 : nm_Fr [(35, 0, 16)] M1 (am_st M1 35 (k : Int) (U.getD k nm_u0).1) := nm_Fr_st (nm_Fg_refl _ _) (nm_in_c (lo := 0) (hi := 16) (by decide) (by omega) (by omega))
      have FU := nm_Fr_trans F (nm_Fr_sub F2 (g := nm_Ug 34) (by decide +kernel))
      have hL2 := nm_LayU hu hL FU
      have q2' := nm_CW_fr q2 hL1 hsW F2 (nm_Wall (P := fun w => nm_dj [(35, 0, 16)] (nm_Wg w)) (by decide +kernel) hsW)
      refine ⟨by omega, by omega, nm_Wk hL2 hmW, by omega, nmc_136 (by omega) hL2 hmW hsW hne q2' (fun M3 F3 hW3 => ?_)⟩
      have F03 := nm_Fr_Ug FU hm F3
      have hL3 := nm_LayU hu hL F03
      refine h_34_101_134_45 hL3 ?_
      rw [nm_wk (by omega)]
      refine ih hkl M3 F03 ?_ (fun j => ?_) (fun i hi => ?_)
      · rw [nm_gt_frn F3 hL2 (by decide) (nm_Wall (P := fun w => nm_no (nm_Wg w) 34) (by decide +kernel) hmW), nm_st_ne (by decide)]; exact a0
      · rw [nm_gt_frn F3 hL2 (by decide) (nm_Wall (P := fun w => nm_no (nm_Wg w) 36) (by decide +kernel) hmW), nm_st_ne (by decide)]; exact a2 j
      · rw [nm_gt_frn F3 hL2 (by decide) (nm_Wall (P := fun w => nm_no (nm_Wg w) 35) (by decide +kernel) hmW), nm_gt_st]
        by_cases hik : i = k
        · subst hik
          rw [if_pos ⟨rfl, rfl⟩]; exact ⟨rfl, hW3⟩
        · rw [if_neg (fun c => hik (by have := c.2; omega))]
          obtain ⟨r1, r2⟩ := a3 i (by omega)
          have hiW := nm_ULWL hu (show am_gt M 36 (i : Int) ∈ nm_UL 34 from hP.1 (i : Int) (by omega) (by omega))
          refine ⟨r1, nm_CW_fr (nm_CW_fr r2 hL1 hiW F2 (nm_Wall (P := fun w => nm_dj [(35, 0, 16)] (nm_Wg w)) (by decide +kernel) hiW)) hL2 hiW F3 (nm_WWdj hmW hiW (fun e => ?_))⟩
          have := hP.2 (k : Int) (i : Int) (by omega) (by omega) (by omega) (by omega) e
          omega
  exact key 0 (Nat.zero_le _) _ (nm_Fr_st (nm_Fg_refl _ _) (by decide +kernel)) nm_st_eq (fun j => by rw [nm_st_ne (by decide)]) (fun i hi => absurd hi (by omega))
