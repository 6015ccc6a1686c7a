/-! STRETCHES OF CODE -/
/-- where the class reckons -/
abbrev nm_kg : nm_Rg := [(19, 0, 64)]
abbrev nm_at69 (d : Nat) (a x2 top i : Int) (l5 l6 l7 l8 : am_V) (M : am_M) (Q : List am_V → am_M → Prop) : Prop := am_WP d am_c69 5 [(2, 17), (2, a), (0, x2), (0, top), (0, i), l5, l6, l7, l8] [] M Q
/-- a memory that holds the code c from i to j in its row a, and the words e -/
def nm_hold (N : Int) (c : Int → Int) (i j a : Int) (e : Int → Int) (M : am_M) : Prop := nm_Lay M ∧ am_kd M a = 100 ∧ a < M.1 ∧ a ≠ 19 ∧ 0 ≤ i ∧ j ≤ am_ln M a ∧ am_ln M a ≤ 60000 ∧ (∀ k, i ≤ k → k < j → am_gt M a k = c k) ∧ (∀ k, 0 ≤ k → k < N → am_gt M 18 k = e k) ∧ N ≤ 18 ∧ (∀ k, 0 ≤ k → k < N → nm_bd (e k))
/-- from i to j the code c tells f, with at most ht on the stack -/
def nm_CB (N : Int) (c : Int → Int) (i j ht : Int) (f : (Int → Int) → Option Int) : Prop := i < j ∧ 1 ≤ ht ∧ (∀ e, (∀ k, 0 ≤ k → k < N → nm_bd (e k)) → ∀ v, f e = some v → nm_bd v) ∧ (∀ e e' : Int → Int, (∀ k, 0 ≤ k → k < N → e k = e' k) → f e = f e') ∧
  ∀ (d : Nat) (M : am_M) (a x2 top : Int) (e : Int → Int) (Q : List am_V → am_M → Prop) (l5 l6 l7 l8 : am_V), 2 ≤ d → nm_hold N c i j a e M → 0 ≤ top → top + ht ≤ 64 →
    (∀ v M' l5 l6 l7 l8, f e = some v → nm_Fr nm_kg M M' → (∀ k, k < top → am_gt M' 19 k = am_gt M 19 k) → am_gt M' 19 top = v → nm_at69 d a x2 (top + 1) j l5 l6 l7 l8 M' Q) →
    (f e = none → ∀ M', nm_Fr nm_kg M M' → Q [(0, -2147483648)] M') → nm_at69 d a x2 top i l5 l6 l7 l8 M Q
theorem nm_hold_fr {N : Int} {c : Int → Int} {i j a : Int} {e : Int → Int} {M M' : am_M} (h : nm_hold N c i j a e M) (hF : nm_Fr nm_kg M M') : nm_hold N c i j a e M' := by
  obtain ⟨h1, h2, h3, h4, h5, h6, h7, h8, h9, h10, h11⟩ := h
  have hm := hF.1
  have hty := hF.2.2.2.1 a h3
  refine ⟨nm_Lay_fr h1 hF (by decide +kernel), ?_, by omega, h4, h5, ?_, ?_, fun k x y => ?_, fun k x y => ?_, h10, h11⟩
  · show (M'.2.2.1 a).1 = _; rw [hty]; exact h2
  · show j ≤ (M'.2.2.1 a).2; rw [hty]; exact h6
  · show (M'.2.2.1 a).2 ≤ _; rw [hty]; exact h7
  · rw [nm_gt_fr hF h3 (nm_in_no (by unfold nm_no nm_kg; simp only [List.all_cons, List.all_nil, Bool.and_true, Bool.not_eq_true', decide_eq_false_iff_not]; omega))]; exact h8 k x y
  · rw [nm_gt_frn hF h1 (by decide) (by decide)]; exact h9 k x y
theorem nm_hold_sub {N : Int} {c : Int → Int} {i j i' j' a : Int} {e : Int → Int} {M : am_M} (h : nm_hold N c i j a e M) (hi : i ≤ i') (hj : j' ≤ j) : nm_hold N c i' j' a e M := by
  obtain ⟨h1, h2, h3, h4, h5, h6, h7, h8, h9, h10, h11⟩ := h
  exact ⟨h1, h2, h3, h4, by omega, by omega, h7, fun k x y => h8 k (by omega) (by omega), h9, h10, h11⟩
/-- a number, or a word -/
theorem nm_cb_push {N : Int} {c : Int → Int} {i : Int} {f : (Int → Int) → Option Int} (op ar : Int) (hc : c i = nm_cw op ar) (ho : (op = 1 ∧ 0 ≤ ar ∧ ar ≤ 1000 ∧ f = fun _ => some ar) ∨ (op = 2 ∧ 0 ≤ ar ∧ ar < N ∧ ar < 18 ∧ f = fun e => some (e ar))) : nm_CB N c i (i + 1) 1 f := by
  have hb1 : 0 ≤ op ∧ op < 14 ∧ 0 ≤ ar ∧ ar < 65536 := by rcases ho with h | h <;> omega
  have hop := nm_cw_op hb1.1 hb1.2.1 hb1.2.2.1 hb1.2.2.2
  have har := nm_cw_ar hb1.1 hb1.2.1 hb1.2.2.1 hb1.2.2.2
  refine ⟨by omega, by omega, ?_, ?_, ?_⟩
  · intro e he v hv
    rcases ho with ⟨-, h1, h2, rfl⟩ | ⟨-, h1, h2, -, rfl⟩
    · cases hv; exact ⟨by omega, by omega⟩
    · cases hv; exact he ar h1 h2
  · intro e e' he
    rcases ho with ⟨-, h1, h2, rfl⟩ | ⟨-, h1, h2, -, rfl⟩
    · rfl
    · show some (e ar) = some (e' ar); rw [he ar h1 h2]
  · intro d M a x2 top e Q l5 l6 l7 l8 hd hh ht0 ht hK hN
    obtain ⟨hL, g2, g3, g4, g5, g6, g7, g8, g9, g10, g11⟩ := hh
    have hg : am_gt M a i = nm_cw op ar := (g8 i (Int.le_refl _) (by omega)).trans hc
    have w1 : am_w (top + 1) = top + 1 := am_w_id (by omega) (by omega)
    have w2 : am_w (i + 1) = i + 1 := am_w_id (by omega) (by omega)
    have fin : ∀ v : Int, f e = some v → nm_at69 d a x2 (am_w (top + 1)) (am_w (i + 1)) (0, op) (0, ar) l7 l8 (am_st M 19 top v) Q := by
      intro v hv
      rw [w1, w2]
      refine hK v _ _ _ _ _ hv (nm_Fr_st (nm_Fg_refl _ _) (nm_in_c (List.mem_singleton.mpr rfl) ht0 (by omega))) (fun k hk => ?_) ?_
      · rw [nm_gt_st, if_neg (by omega)]
      · rw [nm_gt_st, if_pos ⟨rfl, rfl⟩]
    have at47 : am_WP d am_c69 47 [(2, 17), (2, a), (0, x2), (0, top), (0, i), (0, op), (0, ar), l7, l8] [] M Q := by
      refine h_69_47 hL ⟨fun h => absurd h (by omega), fun h => ⟨fun h2 => ⟨fun h3 => ?_, fun h3 => ⟨ht0, by omega, ?_⟩⟩, fun h2 => ⟨fun h3 => ⟨fun h4 => ⟨by omega, ht0, by omega, ?_⟩, fun h4 => ?_⟩, fun h3 => ?_⟩⟩⟩
      · rcases ho with ⟨q, -⟩ | ⟨q, -⟩ <;> omega
      · rcases ho with ⟨q, -, -, rfl⟩ | ⟨q, -⟩
        · exact fin _ rfl
        · omega
      · rcases ho with ⟨q, -⟩ | ⟨q, q1, q2, -, rfl⟩
        · omega
        · rw [g9 ar q1 q2]; exact fin _ rfl
      · omega
      · rcases ho with ⟨q, -⟩ | ⟨q, q1, q2, q3, -⟩ <;> omega
    refine h_69_5 hL ⟨fun h => absurd h (by omega), fun h => ⟨g2, fun h2 => absurd h2 (by omega), fun h2 => ⟨by omega, by omega, ?_⟩⟩⟩
    rw [hg, hop, har]
    refine ⟨fun h3 => at47, fun h3 => ⟨fun h4 => ?_, fun h4 => at47⟩⟩
    rcases ho with ⟨q, -⟩ | ⟨q, -⟩ <;> omega
/-- two joined -/
theorem nm_cb_bin {N : Int} {c : Int → Int} {i j k h1 h2 : Int} {f g : (Int → Int) → Option Int} (op : Int) (ho : 6 ≤ op ∧ op ≤ 13) (hc : c k = nm_cw op 0) (hf : nm_CB N c i j h1 f) (hg : nm_CB N c j k h2 g) : nm_CB N c i (k + 1) (max h1 (h2 + 1)) (nm_bin op f g) := by
  obtain ⟨f0, f00, f1, f2, f3⟩ := hf
  obtain ⟨g0, g00, g1, g2, g3⟩ := hg
  refine ⟨by omega, by omega, ?_, ?_, ?_⟩
  · intro e he v hv
    unfold nm_bin at hv
    cases hfe : f e with
    | none => rw [hfe] at hv; cases hv
    | some x =>
      rw [hfe] at hv
      cases hge : g e with
      | none => rw [hge] at hv; cases hv
      | some y =>
        rw [hge] at hv
        simp only at hv
        unfold nm_jn at hv
        split at hv
        · cases hv
        · split at hv
          · cases hv
          · cases hv; exact ⟨by omega, by omega⟩
  · intro e e' he
    unfold nm_bin; rw [f2 e e' he, g2 e e' he]
  · intro d M a x2 top e Q l5 l6 l7 l8 hd hh ht0 ht hK hN
    have hb := hh.2.2.2.2.2.2.2.2.2.2
    refine f3 d M a x2 top e Q l5 l6 l7 l8 hd (nm_hold_sub hh (Int.le_refl _) (by omega)) ht0 (by omega) ?_ ?_
    · intro x M1 l5 l6 l7 l8 hx F1 k1 v1
      have hh1 := nm_hold_fr hh F1
      refine g3 d M1 a x2 (top + 1) e Q l5 l6 l7 l8 hd (nm_hold_sub hh1 (by omega) (by omega)) (by omega) (by omega) ?_ ?_
      · intro y M2 l5 l6 l7 l8 hy F2 k2 v2
        have hh2 := nm_hold_fr hh1 F2
        have bx := f1 e hb x hx
        have by' := g1 e hb y hy
        obtain ⟨hL, q2, q3, q4, q5, q6, q7, q8, q9, q10, q11⟩ := hh2
        have hgt : am_gt M2 a k = nm_cw op 0 := (q8 k (by omega) (by omega)).trans hc
        have hop := nm_cw_op (op := op) (ar := 0) (by omega) (by omega) (by decide) (by decide)
        have har := nm_cw_ar (op := op) (ar := 0) (by omega) (by omega) (by decide) (by decide)
        have hval : nm_bin op f g e = nm_jn op x y := by unfold nm_bin; rw [hx]; simp only; rw [hy]
        refine h_69_5 hL ⟨fun h => absurd h (by omega), fun h => ⟨q2, fun h => absurd h (by omega), fun h => ⟨by omega, by omega, ?_⟩⟩⟩
        rw [hgt, hop, har]
        refine ⟨fun h => absurd h (by omega), fun h => ⟨fun h => ⟨fun h => absurd h (by omega), fun h => ⟨fun h => absurd h (by omega), fun h => ⟨fun h => ?_, fun h => absurd h (by omega)⟩⟩⟩, fun h => absurd h (by omega)⟩⟩
        have w1 : am_w (top + 1 + 1 - 1) = top + 1 := by rw [am_w_id (by omega) (by omega)]; omega
        have w2 : am_w (top + 1 + 1 + -1) = top + 1 := by rw [am_w_id (by omega) (by omega)]; omega
        have w3 : am_w (top + 1 - 1) = top := by rw [am_w_id (by omega) (by omega)]; omega
        refine h_69_118 hL ?_
        rw [w1, w2, w3]
        refine ⟨by omega, by omega, fun _ => ⟨fun _ => ⟨fun h => absurd h (by omega), fun _ => ⟨fun _ => ⟨by omega, by omega, by omega, ?_⟩, fun h => absurd h (by omega)⟩⟩, fun h => absurd h (by omega)⟩, fun h => absurd h (by omega)⟩
        rw [v2, k2 top (by omega), v1]
        refine nmc_70 bx by' hL ?_
        refine h_69_249 hL ⟨fun h => ?_, fun h => ?_⟩
        · rw [w3, am_w_id (x := k + 1) (by omega) (by omega)]
          refine ⟨by omega, by omega, ?_⟩
          cases hj : nm_jn op x y with
          | none => rw [hj] at h; exact absurd rfl h
          | some z =>
            refine hK z _ _ _ _ _ (hval.trans hj) (nm_Fr_st (nm_Fr_trans F1 F2) (nm_in_c (List.mem_singleton.mpr rfl) ht0 (by omega))) (fun k' hk' => ?_) ?_
            · rw [nm_gt_st, if_neg (by omega), k2 k' (by omega), k1 k' hk']
            · rw [nm_gt_st, if_pos ⟨rfl, rfl⟩]; rfl
        · refine hN (hval.trans ?_) _ (nm_Fr_trans F1 F2)
          cases hj : nm_jn op x y with
          | none => rfl
          | some z =>
            rw [hj] at h
            have : nm_bd z := by
              unfold nm_jn at hj
              split at hj
              · cases hj
              · split at hj
                · cases hj
                · cases hj; exact ⟨by omega, by omega⟩
            have h1 := this.1
            simp only [nm_enc] at h
            omega
      · intro hy M2 F2
        refine hN ?_ M2 (nm_Fr_trans F1 F2)
        unfold nm_bin; rw [hx]; simp only; rw [hy]
    · intro hx M1 F1
      refine hN ?_ M1 F1
      unfold nm_bin; rw [hx]
/-- tells 0 or 1 -/
def nm_b01 (f : (Int → Int) → Option Int) : Prop := ∀ e v, f e = some v → v = 0 ∨ v = 1
theorem nm_cb_not {N : Int} {c : Int → Int} {i j h1 : Int} {f : (Int → Int) → Option Int} (hb01 : nm_b01 f) (hc : c j = nm_cw 3 0) (hf : nm_CB N c i j h1 f) : nm_CB N c i (j + 1) h1 (nm_not f) := by
  obtain ⟨f0, f00, f1, f2, f3⟩ := hf
  refine ⟨by omega, f00, ?_, ?_, ?_⟩
  · intro e he v hv
    unfold nm_not at hv
    cases hfe : f e with
    | none => rw [hfe] at hv; cases hv
    | some x =>
      rw [hfe] at hv; cases hv
      rcases hb01 e x hfe with rfl | rfl
      · exact ⟨by decide, by decide⟩
      · exact ⟨by decide, by decide⟩
  · intro e e' he
    unfold nm_not; rw [f2 e e' he]
  · intro d M a x2 top e Q l5 l6 l7 l8 hd hh ht0 ht hK hN
    refine f3 d M a x2 top e Q l5 l6 l7 l8 hd (nm_hold_sub hh (Int.le_refl _) (by omega)) ht0 (by omega) ?_ ?_
    · intro x M1 l5 l6 l7 l8 hx F1 k1 v1
      have hh1 := nm_hold_fr hh F1
      obtain ⟨hL, q2, q3, q4, q5, q6, q7, q8, q9, q10, q11⟩ := hh1
      have hgt : am_gt M1 a j = nm_cw 3 0 := (q8 j (by omega) (by omega)).trans hc
      have hop := nm_cw_op (op := 3) (ar := 0) (by omega) (by omega) (by decide) (by decide)
      have har := nm_cw_ar (op := 3) (ar := 0) (by omega) (by omega) (by decide) (by decide)
      have hx01 := hb01 e x hx
      refine h_69_5 hL ⟨fun h => absurd h (by omega), fun h => ⟨q2, fun h => absurd h (by omega), fun h => ⟨by omega, by omega, ?_⟩⟩⟩
      rw [hgt, hop, har]
      refine ⟨fun h => absurd h (by omega), fun h => ⟨fun h => ⟨fun h => absurd h (by omega), fun h => ⟨fun h => ?_, fun h => absurd h (by omega)⟩⟩, fun h => absurd h (by omega)⟩⟩
      have w1 : am_w (top + 1 - 1) = top := by rw [am_w_id (by omega) (by omega)]; omega
      refine h_69_118 hL ?_
      rw [w1, v1, am_w_id (x := 1 - x) (by omega) (by omega), am_w_id (x := j + 1) (by omega) (by omega)]
      refine ⟨by omega, by omega, fun _ => ⟨fun h => absurd rfl h, fun _ => ?_⟩, fun h => absurd h (by omega)⟩
      refine hK (1 - x) _ _ _ _ _ (by unfold nm_not; rw [hx]) (nm_Fr_st F1 (nm_in_c (List.mem_singleton.mpr rfl) ht0 (by omega))) (fun k' hk' => ?_) ?_
      · rw [nm_gt_st, if_neg (by omega), k1 k' hk']
      · rw [nm_gt_st, if_pos ⟨rfl, rfl⟩]
    · intro hx M1 F1
      refine hN ?_ M1 F1
      unfold nm_not; rw [hx]
/-- "and", "or" -/
theorem nm_cb_jmp {N : Int} {c : Int → Int} {i j t h1 h2 : Int} {f g : (Int → Int) → Option Int} (op z : Int) (ho : (op = 4 ∧ z = 1) ∨ (op = 5 ∧ z = 0)) (hc : c j = nm_cw op t) (ht : t < 60000) (hi0 : 0 ≤ i) (hf : nm_CB N c i j h1 f) (hg : nm_CB N c (j + 1) t h2 g) : nm_CB N c i t (max h1 h2) (nm_jmp z f g) := by
  obtain ⟨f0, f00, f1, f2, f3⟩ := hf
  obtain ⟨g0, g00, g1, g2, g3⟩ := hg
  refine ⟨by omega, by omega, ?_, ?_, ?_⟩
  · intro e he v hv
    unfold nm_jmp at hv
    cases hfe : f e with
    | none => rw [hfe] at hv; cases hv
    | some x =>
      rw [hfe] at hv
      simp only at hv
      split at hv
      · cases hv; exact f1 e he v hfe
      · exact g1 e he v hv
  · intro e e' he
    unfold nm_jmp; rw [f2 e e' he, g2 e e' he]
  · intro d M a x2 top e Q l5 l6 l7 l8 hd hh ht0 ht' hK hN
    refine f3 d M a x2 top e Q l5 l6 l7 l8 hd (nm_hold_sub hh (Int.le_refl _) (by omega)) ht0 (by omega) ?_ ?_
    · intro x M1 l5 l6 l7 l8 hx F1 k1 v1
      have hh1 := nm_hold_fr hh F1
      have hh1' := hh1
      obtain ⟨hL, q2, q3, q4, q5, q6, q7, q8, q9, q10, q11⟩ := hh1
      have hgt : am_gt M1 a j = nm_cw op t := (q8 j (by omega) (by omega)).trans hc
      have hop := nm_cw_op (op := op) (ar := t) (by omega) (by omega) (by omega) (by omega)
      have har := nm_cw_ar (op := op) (ar := t) (by omega) (by omega) (by omega) (by omega)
      have w1 : am_w (top + 1 - 1) = top := by rw [am_w_id (by omega) (by omega)]; omega
      have w2 : am_w (j + 1) = j + 1 := am_w_id (by omega) (by omega)
      have w3 : am_w (max j (am_w (t - 1)) + 1) = t := by rw [am_w_id (x := t - 1) (by omega) (by omega), am_w_id (by omega) (by omega)]; omega
      have go : ∀ l5 l6 l7 l8, x ≠ z → nm_at69 d a x2 top (j + 1) l5 l6 l7 l8 M1 Q := by
        intro l5 l6 l7 l8 hz
        refine g3 d M1 a x2 top e Q l5 l6 l7 l8 hd (nm_hold_sub hh1' (by omega) (Int.le_refl _)) ht0 (by omega) ?_ ?_
        · intro y M2 l5 l6 l7 l8 hy F2 k2 v2
          exact hK y M2 _ _ _ _ (by unfold nm_jmp; rw [hx]; simp only; rw [if_neg hz, hy]) (nm_Fr_trans F1 F2) (fun k' hk' => by rw [k2 k' hk', k1 k' hk']) v2
        · intro hy M2 F2
          exact hN (by unfold nm_jmp; rw [hx]; simp only; rw [if_neg hz, hy]) M2 (nm_Fr_trans F1 F2)
      have stay : ∀ l5 l6 l7 l8, x = z → nm_at69 d a x2 (top + 1) t l5 l6 l7 l8 M1 Q := by
        intro l5 l6 l7 l8 hz
        exact hK x M1 _ _ _ _ (by unfold nm_jmp; rw [hx]; simp only; rw [if_pos hz]) F1 k1 v1
      have at182 : am_WP d am_c69 182 [(2, 17), (2, a), (0, x2), (0, top + 1), (0, j), (0, op), (0, t), (0, x), l8] [(0, z), (0, x)] M1 Q := by
        refine h_69_182 hL ?_
        rw [w1, w2, w3]
        exact ⟨fun hz => ⟨fun _ => ⟨fun _ => go _ _ _ _ hz, fun h => absurd rfl h⟩, fun h => absurd rfl h⟩, fun hz => ⟨fun h => absurd h (by decide), fun _ => ⟨by omega, fun h => absurd h (by decide), fun _ => stay _ _ _ _ (by omega)⟩⟩⟩
      have at169 : am_WP d am_c69 169 [(2, 17), (2, a), (0, x2), (0, top + 1), (0, j), (0, op), (0, t), (0, x), l8] [] M1 Q := by
        refine h_69_169 hL ⟨fun h => ?_, fun h => ?_⟩
        · rcases ho with ⟨o1, o2⟩ | ⟨o1, o2⟩
          · omega
          · rw [o2] at at182; exact at182
        · rcases ho with ⟨o1, o2⟩ | ⟨o1, o2⟩
          · rw [o2] at at182; exact at182
          · omega
      refine h_69_5 hL ⟨fun h => absurd h (by omega), fun h => ⟨q2, fun h => absurd h (by omega), fun h => ⟨by omega, by omega, ?_⟩⟩⟩
      rw [hgt, hop, har]
      refine ⟨fun h => absurd h (by omega), fun h => ⟨fun h => ⟨fun h => absurd h (by omega), fun h => ⟨fun h => ?_, fun h => absurd h (by omega)⟩⟩, fun h => absurd h (by omega)⟩⟩
      refine h_69_118 hL ?_
      rw [w1, v1]
      exact ⟨by omega, by omega, fun _ => ⟨fun _ => ⟨fun _ => at169, fun _ => ⟨fun h => absurd h (by omega), fun _ => at169⟩⟩, fun h => absurd h (by omega)⟩, fun h => absurd h (by omega)⟩
    · intro hx M1 F1
      refine hN ?_ M1 F1
      unfold nm_jmp; rw [hx]
/-- a stretch and its stop: what reckon tells -/
theorem nmc_69 {N : Int} {c : Int → Int} {i j ht : Int} {f : (Int → Int) → Option Int} {d : Nat} {M : am_M} {a : Int} {e : Int → Int} {Q : List am_V → am_M → Prop} (hd : 2 ≤ d) (hf : nm_CB N c i j ht f) (hht : ht ≤ 64) (hc : c j = 0) (hh : nm_hold N c i (j + 1) a e M) (hQ : ∀ M', nm_Fr nm_kg M M' → Q [(0, nm_enc (f e))] M') : am_CL d 69 [(2, 17), (2, a), (0, i)] M Q := by
  refine h_69_0 hh.1 ?_
  obtain ⟨f0, f00, f1, f2, f3⟩ := hf
  refine f3 d M a i 0 e Q _ _ _ _ hd (nm_hold_sub hh (Int.le_refl _) (by omega)) (by decide) (by omega) ?_ ?_
  · intro x M1 l5 l6 l7 l8 hx F1 k1 v1
    obtain ⟨hL, q2, q3, q4, q5, q6, q7, q8, q9, q10, q11⟩ := nm_hold_fr hh F1
    have hgt : am_gt M1 a j = nm_cw 0 0 := (q8 j (by omega) (by omega)).trans hc
    have hop := nm_cw_op (op := 0) (ar := 0) (by omega) (by omega) (by decide) (by decide)
    have har := nm_cw_ar (op := 0) (ar := 0) (by omega) (by omega) (by decide) (by decide)
    refine h_69_5 hL ⟨fun h => absurd h (by omega), fun h => ⟨q2, fun h => absurd h (by omega), fun h => ⟨by omega, by omega, ?_⟩⟩⟩
    rw [hgt, hop, har]
    refine ⟨fun h => absurd h (by omega), fun h => ⟨fun h => ⟨fun h => absurd h (by omega), fun h => ⟨fun h => ?_, fun h => absurd h (by omega)⟩⟩, fun h => absurd h (by omega)⟩⟩
    refine h_69_118 hL ?_
    have w1 : am_w (0 + 1 - 1) = 0 := by decide
    rw [w1, v1]
    refine ⟨by decide, by decide, fun h => absurd rfl h, fun _ => ?_⟩
    have := hQ M1 F1
    rw [hx] at this
    exact this
  · intro hx M1 F1
    have := hQ M1 F1
    rw [hx] at this
    exact this
