/-! THE CLASS'S TOKENS -/
def rd_tx (k : Nat) : List Int := am_tx.getD k []
def rc_tp (M : am_M) (T : tk_T) : Prop := am_gt M 30 1 = T.2 ∧ ∀ i, 0 ≤ i → i < T.2 → am_gt M 31 i = T.1 i
def rc_tk (M : am_M) (T : tk_T) (s : Int) : Prop := am_gt M 30 4 = tk_b T s ∧ am_gt M 30 5 = tk_e T s ∧ am_gt M 30 6 = (if tk_k T s = 2 then 1 else 0) ∧ am_gt M 30 7 = tk_c T s
abbrev rc_sg : nm_Rg := [(30, 4, 8)]
theorem rc_99 {d : Nat} {T : tk_T} {s : Int} {M : am_M} {Q : List am_V → am_M → Prop} (hd : 1 ≤ d) (hL : nm_Lay M) (hT : tk_ok T) (hP : rc_tp M T) (hs : am_gt M 30 5 = s) (h0 : 0 ≤ s) (h1 : s ≤ T.2) (hQ : ∀ M', nm_Fr rc_sg M M' → rc_tk M' T s → Q [] M') : am_CL d 99 [(2, 30)] M Q := by
  obtain ⟨t0, t4, tc⟩ := hT
  obtain ⟨b1, b2⟩ := tk_bb h1
  obtain ⟨e1, e2, e3⟩ := tk_eb h1
  have z : ((30, 4, 8) : Int × Int × Int) ∈ rc_sg := List.mem_singleton.mpr rfl
  have lay : ∀ {M'}, nm_Fr rc_sg M M' → nm_Lay M' := fun F => nm_Lay_fr hL F (by decide +kernel)
  have kL : ∀ {M'}, nm_Fr rc_sg M M' → am_gt M' 30 1 = T.2 := fun F => (nm_gt_frd (g := [(30, 1, 2)]) F hL (by decide) (by decide) (by decide)).trans hP.1
  have kP : ∀ {M'}, nm_Fr rc_sg M M' → ∀ i, 0 ≤ i → i < T.2 → am_gt M' 31 i = T.1 i := fun F i a b => (nm_gt_frn F hL (by decide) (by decide)).trans (hP.2 i a b)
  have fin : ∀ (x : Int) (M1 : am_M), nm_Fr rc_sg M M1 → am_gt M1 30 4 = tk_b T s → am_gt M1 30 6 = (if tk_k T s = 2 then 1 else 0) → am_gt M1 30 7 = tk_c T s → (x ≠ tk_b T s → x = tk_e T s) → (x = tk_b T s → T.2 ≤ x → tk_e T s = x) → (x = tk_b T s → x < T.2 → tk_e T s = x + 1) → ((x ≠ am_gt M1 30 4 → Q [] (am_st M1 30 5 x)) ∧ (¬ (x ≠ am_gt M1 30 4) → ((am_gt M1 30 1 ≤ x → Q [] (am_st M1 30 5 x)) ∧ (¬ (am_gt M1 30 1 ≤ x) → Q [] (am_st M1 30 5 (am_w (x + 1))))))) := by
    intro x M1 F g4 g6 g7 c1 c2 c3
    have go : ∀ v, v = tk_e T s → Q [] (am_st M1 30 5 v) := by
      intro v hv
      refine hQ _ (nm_Fst F z (by decide) (by decide)) ⟨?_, ?_, ?_, ?_⟩
      · rw [nm_gt_st, if_neg (by decide)]; exact g4
      · rw [nm_gt_st, if_pos ⟨rfl, rfl⟩]; exact hv
      · rw [nm_gt_st, if_neg (by decide)]; exact g6
      · rw [nm_gt_st, if_neg (by decide)]; exact g7
    rw [g4, kL F]
    refine ⟨fun h => go _ (c1 h), fun h => ⟨fun h2 => go _ (c2 (by omega) h2).symm, fun h2 => go _ ?_⟩⟩
    rw [am_w_id (by omega) (by omega)]; exact (c3 (by omega) (by omega)).symm
  have digs : tk_k T s = 2 → ∀ (n k : Nat) (M1 : am_M), (T.2 - (tk_b T s + (k : Int))).toNat ≤ n → tk_b T s + (k : Int) ≤ T.2 → tk_to (fun i => tk_dg (T.1 i)) T.2 (tk_b T s + (k : Int)) = tk_e T s → nm_Fr rc_sg M M1 → am_gt M1 30 4 = tk_b T s → am_gt M1 30 6 = 1 → am_gt M1 30 7 = min (tk_dv T.1 (tk_b T s) k) 1001 → (∀ i : Nat, i < k → 48 ≤ T.1 (tk_b T s + (i : Int)) ∧ T.1 (tk_b T s + (i : Int)) ≤ 57) → am_WP d am_c99 123 [(2, 30), (0, tk_b T s + (k : Int))] [] M1 Q := by
    intro hk n
    have hbe := e3 (by omega)
    induction n with
    | zero =>
      intro k M1 hn hx ht F g4 g6 g7 hd'
      have hxe : tk_b T s + (k : Int) = T.2 := by omega
      have hte : tk_e T s = tk_b T s + (k : Int) := by rw [← ht, tk_to_end (by omega)]
      have hlen : tk_len T s = k := by unfold tk_len; omega
      have hc : am_gt M1 30 7 = tk_c T s := by rw [g7]; unfold tk_c tk_w; rw [if_pos hk, if_neg (by omega), if_neg (by omega), if_pos hk, hlen]
      have f := fin (tk_b T s + (k : Int)) M1 F g4 (by rw [g6, if_pos hk]) hc (fun _ => hte.symm) (fun _ _ => hte) (fun _ _ => by omega)
      refine h_99_123 (lay F) ⟨fun h => absurd h (by omega), fun _ => ⟨fun _ => f, fun h => ?_⟩⟩
      rw [kL F] at h; omega
    | succ n ih =>
      intro k M1 hn hx ht F g4 g6 g7 hd'
      have stop : tk_e T s = tk_b T s + (k : Int) → ((tk_b T s + (k : Int) ≠ am_gt M1 30 4 → Q [] (am_st M1 30 5 (tk_b T s + (k : Int)))) ∧ (¬ (tk_b T s + (k : Int) ≠ am_gt M1 30 4) → ((am_gt M1 30 1 ≤ tk_b T s + (k : Int) → Q [] (am_st M1 30 5 (tk_b T s + (k : Int)))) ∧ (¬ (am_gt M1 30 1 ≤ tk_b T s + (k : Int)) → Q [] (am_st M1 30 5 (am_w (tk_b T s + (k : Int) + 1))))))) := by
        intro hte
        have hlen : tk_len T s = k := by unfold tk_len; omega
        have hc : am_gt M1 30 7 = tk_c T s := by rw [g7]; unfold tk_c tk_w; rw [if_pos hk, if_neg (by omega), if_neg (by omega), if_pos hk, hlen]
        exact fin _ M1 F g4 (by rw [g6, if_pos hk]) hc (fun _ => hte.symm) (fun _ _ => hte) (fun _ _ => by omega)
      refine h_99_123 (lay F) ⟨fun h => absurd h (by omega), fun _ => ⟨fun h => stop ?_, fun h => ⟨by omega, ?_, fun h2 => stop ?_, fun h2 => ⟨fun h3 => stop ?_, fun h3 => ⟨hd, ?_⟩⟩⟩⟩⟩
      · rw [kL F] at h; rw [← ht, tk_to_end (by omega)]
      · rw [kL F] at h; omega
      · rw [kL F] at h
        rw [kP F _ (by omega) (by omega)] at h2
        rw [← ht, tk_to_no (decide_eq_false (by omega))]
      · rw [kL F] at h
        rw [kP F _ (by omega) (by omega)] at h3
        rw [← ht, tk_to_no (decide_eq_false (by omega))]
      · rw [kL F] at h
        rw [kP F _ (by omega) (by omega)] at h2 h3
        have hb := tk_dv_b k hd'
        rw [kP F _ (by omega) (by omega), g7, am_w_id (x := min (tk_dv T.1 (tk_b T s) k) 1001 * 10) (by omega) (by omega), am_w_id (x := min (tk_dv T.1 (tk_b T s) k) 1001 * 10 + T.1 (tk_b T s + (k : Int))) (by omega) (by omega), am_w_id (x := min (tk_dv T.1 (tk_b T s) k) 1001 * 10 + T.1 (tk_b T s + (k : Int)) - 48) (by omega) (by omega), am_w_id (x := tk_b T s + (k : Int) + 1) (by omega) (by omega)]
        have hx1 : tk_b T s + (k : Int) + 1 = tk_b T s + ((k + 1 : Nat) : Int) := by omega
        rw [hx1]
        refine ih (k + 1) _ (by omega) (by omega) ?_ (nm_Fst F z (by decide) (by decide)) ?_ ?_ ?_ ?_
        · rw [← ht, ← hx1]; exact (tk_to_go (by omega) (decide_eq_true (by omega))).symm
        · rw [nm_gt_st, if_neg (by decide)]; exact g4
        · rw [nm_gt_st, if_neg (by decide)]; exact g6
        · rw [nm_gt_st, if_pos ⟨rfl, rfl⟩]
          simp only [tk_dv]
          split <;> omega
        · intro i hi
          by_cases hik : i = k
          · rw [hik]; omega
          · exact hd' i (by omega)
  have F0 : nm_Fr rc_sg M (am_st (am_st M 30 4 (tk_b T s)) 30 7 0) := nm_Fst (nm_Fst (nm_Fg_refl _ M) z (by decide) (by decide)) z (by decide) (by decide)
  have G4 : ∀ v, am_gt (am_st (am_st (am_st M 30 4 (tk_b T s)) 30 7 0) 30 6 v) 30 4 = tk_b T s := fun v => by rw [nm_gt_st, if_neg (by decide), nm_gt_st, if_neg (by decide), nm_gt_st, if_pos ⟨rfl, rfl⟩]
  have G6 : ∀ v, am_gt (am_st (am_st (am_st M 30 4 (tk_b T s)) 30 7 0) 30 6 v) 30 6 = v := fun v => by rw [nm_gt_st, if_pos ⟨rfl, rfl⟩]
  have G7 : ∀ v, am_gt (am_st (am_st (am_st M 30 4 (tk_b T s)) 30 7 0) 30 6 v) 30 7 = 0 := fun v => by rw [nm_gt_st, if_neg (by decide), nm_gt_st, if_pos ⟨rfl, rfl⟩]
  have F6 : ∀ v, nm_Fr rc_sg M (am_st (am_st (am_st M 30 4 (tk_b T s)) 30 7 0) 30 6 v) := fun v => nm_Fst F0 z (by decide) (by decide)
  have w0 : ∀ x : Int, tk_k T s ≠ 2 → (x ≠ tk_b T s → x = tk_e T s) → (x = tk_b T s → T.2 ≤ x → tk_e T s = x) → (x = tk_b T s → x < T.2 → tk_e T s = x + 1) → am_WP d am_c99 123 [(2, 30), (0, x)] [] (am_st (am_st (am_st M 30 4 (tk_b T s)) 30 7 0) 30 6 0) Q := by
    intro x hk c1 c2 c3
    have f := fin x _ (F6 0) (G4 0) (by rw [G6, if_neg hk]) (by rw [G7]; unfold tk_c; rw [if_neg hk]) c1 c2 c3
    exact h_99_123 (lay (F6 0)) ⟨fun _ => f, fun h => absurd (G6 0) h⟩
  have w1 : tk_k T s = 2 → am_WP d am_c99 123 [(2, 30), (0, tk_b T s)] [] (am_st (am_st (am_st M 30 4 (tk_b T s)) 30 7 0) 30 6 1) Q := by
    intro hk
    have := digs hk _ 0 (am_st (am_st (am_st M 30 4 (tk_b T s)) 30 7 0) 30 6 1) (Nat.le_refl _) (by omega) (by unfold tk_e; rw [if_neg (by omega), if_neg (by omega), if_pos hk]; simp) (F6 1) (G4 1) (G6 1) (by rw [G7]; simp only [tk_dv]; omega) (fun i hi => by omega)
    simpa using this
  have H4 : am_gt (am_st (am_st M 30 4 (tk_b T s)) 30 7 0) 30 4 = tk_b T s := by rw [nm_gt_st, if_neg (by decide), nm_gt_st, if_pos ⟨rfl, rfl⟩]
  have lets : ∀ (n : Nat) (x : Int), (T.2 - x).toNat ≤ n → tk_b T s ≤ x → x ≤ T.2 → (tk_b T s < x → tk_k T s = 1) → tk_to (fun i => tk_sm (T.1 i)) T.2 x = tk_to (fun i => tk_sm (T.1 i)) T.2 (tk_b T s) → am_WP d am_c99 40 [(2, 30), (0, x)] [] (am_st (am_st M 30 4 (tk_b T s)) 30 7 0) Q := by
    intro n
    induction n with
    | zero =>
      intro x hn h2 h3 hk1 ht
      have hx : x = T.2 := by omega
      rw [tk_to_end (i := x) (by omega)] at ht
      have hk : tk_k T s ≠ 2 := by
        intro hk
        have := (tk_k2.mp hk).1
        have := hk1 (by omega)
        omega
      have W := w0 x hk (fun hne => by unfold tk_e; have := hk1 (by omega); rw [if_neg (by omega), if_pos this]; exact ht) (fun he _ => by have : tk_k T s = 0 := tk_k0.mpr (by omega); unfold tk_e; rw [if_pos this]; omega) (fun _ h => by omega)
      refine h_99_40 (lay F0) ⟨fun _ => ⟨fun _ => W, fun _ => ⟨fun _ => W, fun h => ?_⟩⟩, fun h => ?_⟩
      · rw [kL F0] at h; omega
      · rw [kL F0] at h; omega
    | succ n ih =>
      intro x hn h2 h3 hk1 ht
      have ex : (T.2 ≤ x ∨ tk_sm (T.1 x) = false) → (x ≠ tk_b T s → am_WP d am_c99 123 [(2, 30), (0, x)] [] (am_st (am_st (am_st M 30 4 (tk_b T s)) 30 7 0) 30 6 0) Q) ∧ (x = tk_b T s → T.2 ≤ x → am_WP d am_c99 123 [(2, 30), (0, x)] [] (am_st (am_st (am_st M 30 4 (tk_b T s)) 30 7 0) 30 6 0) Q) ∧ (x = tk_b T s → x < T.2 → tk_dg (T.1 x) = false → am_WP d am_c99 123 [(2, 30), (0, x)] [] (am_st (am_st (am_st M 30 4 (tk_b T s)) 30 7 0) 30 6 0) Q) ∧ (x = tk_b T s → x < T.2 → tk_dg (T.1 x) = true → am_WP d am_c99 123 [(2, 30), (0, x)] [] (am_st (am_st (am_st M 30 4 (tk_b T s)) 30 7 0) 30 6 1) Q) := by
        intro hstop
        have htx : x = tk_to (fun i => tk_sm (T.1 i)) T.2 (tk_b T s) := by
          rw [← ht]
          rcases hstop with h | h
          · rw [tk_to_end h]
          · rw [tk_to_no (p := fun i => tk_sm (T.1 i)) h]
        refine ⟨fun hne => ?_, fun he hl => ?_, fun he hl hd2 => ?_, fun he hl hd2 => ?_⟩
        · have k1 := hk1 (by omega)
          exact w0 x (by omega) (fun _ => by unfold tk_e; rw [if_neg (by omega), if_pos k1]; exact htx) (fun h => absurd h hne) (fun h => absurd h hne)
        · have k0 : tk_k T s = 0 := tk_k0.mpr (by omega)
          exact w0 x (by omega) (fun h => absurd he h) (fun _ _ => by unfold tk_e; rw [if_pos k0]; omega) (fun _ h => by omega)
        · have k3 : tk_k T s = 3 := tk_k3.mpr (by
            rw [← he]
            rcases hstop with h | h
            · omega
            · exact ⟨hl, h, hd2⟩)
          exact w0 x (by omega) (fun h => absurd he h) (fun _ h => by omega) (fun _ _ => by unfold tk_e; rw [if_neg (by omega), if_neg (by omega), if_neg (by omega)]; omega)
        · have k2 : tk_k T s = 2 := tk_k2.mpr (by rw [← he]; exact ⟨hl, hd2⟩)
          rw [he]; exact w1 k2
      refine h_99_40 (lay F0) ?_
      rw [H4, kL F0]
      refine ⟨fun h => ?_, fun h => ?_⟩
      · obtain ⟨a1, a2, a3, a4⟩ := ex (.inl h)
        exact ⟨a1, fun h2 => ⟨fun h3 => a2 (by omega) h3, fun h3 => absurd h h3⟩⟩
      · rw [kP F0 x (by omega) (by omega)]
        have B : tk_sm (T.1 x) = false → ((x ≠ tk_b T s → am_WP d am_c99 123 [(2, 30), (0, x)] [] (am_st (am_st (am_st M 30 4 (tk_b T s)) 30 7 0) 30 6 0) Q) ∧ (¬ (x ≠ tk_b T s) → ((T.2 ≤ x → am_WP d am_c99 123 [(2, 30), (0, x)] [] (am_st (am_st (am_st M 30 4 (tk_b T s)) 30 7 0) 30 6 0) Q) ∧ (¬ (T.2 ≤ x) → ((T.1 x < 48 → am_WP d am_c99 123 [(2, 30), (0, x)] [] (am_st (am_st (am_st M 30 4 (tk_b T s)) 30 7 0) 30 6 0) Q) ∧ (¬ (T.1 x < 48) → ((57 < T.1 x → am_WP d am_c99 123 [(2, 30), (0, x)] [] (am_st (am_st (am_st M 30 4 (tk_b T s)) 30 7 0) 30 6 0) Q) ∧ (¬ (57 < T.1 x) → am_WP d am_c99 123 [(2, 30), (0, x)] [] (am_st (am_st (am_st M 30 4 (tk_b T s)) 30 7 0) 30 6 1) Q)))))))) := by
          intro hs'
          obtain ⟨a1, a2, a3, a4⟩ := ex (.inr hs')
          exact ⟨a1, fun h2 => ⟨fun h3 => a2 (by omega) h3, fun h3 => ⟨fun h4 => a3 (by omega) (by omega) (decide_eq_false (by omega)), fun h4 => ⟨fun h5 => a3 (by omega) (by omega) (decide_eq_false (by omega)), fun h5 => a4 (by omega) (by omega) (decide_eq_true (by omega))⟩⟩⟩⟩
        refine ⟨by omega, by omega, fun h2 => B (decide_eq_false (by omega)), fun h2 => ⟨fun h3 => B (decide_eq_false (by omega)), fun h3 => ?_⟩⟩
        rw [am_w_id (by omega) (by omega)]
        have hsm : tk_sm (T.1 x) = true := decide_eq_true (by omega)
        refine ih (x + 1) (by omega) (by omega) (by omega) (fun _ => ?_) ?_
        · by_cases hx : x = tk_b T s
          · exact tk_k1.mpr (by rw [← hx]; exact ⟨by omega, hsm⟩)
          · exact hk1 (by omega)
        · rw [← ht]; exact (tk_to_go (p := fun i => tk_sm (T.1 i)) (by omega) hsm).symm
  have sps : ∀ (n : Nat) (x : Int), (T.2 - x).toNat ≤ n → s ≤ x → x ≤ T.2 → tk_to (fun i => tk_sp (T.1 i)) T.2 x = tk_b T s → am_WP d am_c99 5 [(2, 30), (0, x)] [] M Q := by
    intro n
    induction n with
    | zero =>
      intro x hn h2 h3 ht
      rw [tk_to_end (by omega)] at ht
      refine h_99_5 hL ⟨fun _ => ?_, fun h => ?_⟩
      · rw [ht]; exact lets _ _ (Nat.le_refl _) (Int.le_refl _) b2 (fun h => by omega) rfl
      · rw [hP.1] at h; omega
    | succ n ih =>
      intro x hn h2 h3 ht
      refine h_99_5 hL ?_
      rw [hP.1]
      refine ⟨fun h => ?_, fun h => ⟨by omega, by omega, fun h4 => ?_, fun h4 => ?_⟩⟩
      · rw [tk_to_end (by omega)] at ht
        rw [ht]; exact lets _ _ (Nat.le_refl _) (Int.le_refl _) b2 (fun h => by omega) rfl
      · rw [hP.2 x (by omega) (by omega)] at h4
        rw [tk_to_no (decide_eq_false h4)] at ht
        rw [ht]; exact lets _ _ (Nat.le_refl _) (Int.le_refl _) b2 (fun h => by omega) rfl
      · rw [hP.2 x (by omega) (by omega)] at h4
        rw [am_w_id (by omega) (by omega)]
        refine ih (x + 1) (by omega) (by omega) (by omega) ?_
        rw [← ht]; exact (tk_to_go (by omega) (decide_eq_true (by omega))).symm
  refine h_99_0 hL ?_
  rw [hs]
  exact sps _ s (Nat.le_refl _) (Int.le_refl _) h1 rfl
theorem tk_x_eq {T : tk_T} {s : Int} {t : List Int} (hl : tk_len T s = t.length) : tk_x T s = t ↔ ∀ i : Nat, i < t.length → T.1 (tk_b T s + (i : Int)) = t.getD i 0 := by
  constructor
  · intro h i hi
    have e : (tk_x T s)[i]? = t[i]? := by rw [h]
    unfold tk_x at e
    rw [List.getElem?_map, List.getElem?_range (by omega)] at e
    rw [List.getD_eq_getElem?_getD, ← e]; rfl
  · intro h
    refine List.ext_getElem? (fun i => ?_)
    by_cases hi : i < t.length
    · unfold tk_x
      rw [List.getElem?_map, List.getElem?_range (by omega), List.getElem?_eq_getElem hi]
      have := h i hi
      rw [nm_getD hi] at this
      exact congrArg some this
    · rw [List.getElem?_eq_none (by rw [tk_x_len]; omega), List.getElem?_eq_none (by omega)]
theorem rc_98 {d : Nat} {T : tk_T} {s a : Int} {M : am_M} {Q : List am_V → am_M → Prop} (k : Nat) (ha : a = -10 - (k : Int)) (hk : k < 39) (hd : 4 ≤ d) (hL : nm_Lay M) (hT : tk_ok T) (hP : rc_tp M T) (hS : rc_tk M T s) (h0 : 0 ≤ s) (h1 : s ≤ T.2) (hQ : Q [(0, if tk_x T s = rd_tx k then 1 else 0)] M) : am_CL d 98 [(2, 30), (2, a)] M Q := by
  subst ha
  obtain ⟨t0, t4, tc⟩ := hT
  obtain ⟨b1, b2⟩ := tk_bb h1
  obtain ⟨e1, e2, e3⟩ := tk_eb h1
  obtain ⟨x1, x2⟩ := hL.2.2.2 k hk
  have kd : am_kd M (-10 - (k : Int)) = 111 := congrArg Prod.fst x1
  have ln : am_ln M (-10 - (k : Int)) = ((rd_tx k).length : Int) := congrArg Prod.snd x1
  have gl : ∀ i : Nat, i < (rd_tx k).length → am_gt M (-10 - (k : Int)) (i : Int) = (rd_tx k).getD i 0 := x2
  refine h_98_0 hL ⟨hd, kd, ?_⟩
  rw [hS.1, hS.2.1, ln, am_w_id (by omega) (by omega)]
  have hlen : (tk_len T s : Int) = tk_e T s - tk_b T s := by unfold tk_len; omega
  refine ⟨fun h => ?_, fun h => ?_⟩
  · have hl : tk_len T s = (rd_tx k).length := by omega
    have loop : ∀ (n j : Nat), (rd_tx k).length - j ≤ n → j ≤ (rd_tx k).length → (∀ i : Nat, i < j → T.1 (tk_b T s + (i : Int)) = (rd_tx k).getD i 0) → am_WP d am_c98 20 [(2, 30), (2, -10 - (k : Int)), (0, (j : Int))] [] M Q := by
      intro n
      induction n with
      | zero =>
        intro j hn hj hall
        have : j = (rd_tx k).length := by omega
        refine h_98_20 hL ⟨hd, kd, fun _ => ?_, fun h2 => ?_⟩
        · rw [if_pos ((tk_x_eq hl).mpr (fun i hi => hall i (by omega)))] at hQ; exact hQ
        · rw [ln] at h2; omega
      | succ n ih =>
        intro j hn hj hall
        refine h_98_20 hL ⟨hd, kd, fun h2 => ?_, fun h2 => ?_⟩
        · rw [ln] at h2
          rw [if_pos ((tk_x_eq hl).mpr (fun i hi => hall i (by omega)))] at hQ; exact hQ
        · rw [ln] at h2
          rw [hS.1, am_w_id (by omega) (by omega), hP.2 _ (by omega) (by omega), gl j (by omega), ln]
          refine ⟨by omega, by omega, by omega, by omega, fun h3 => ?_, fun h3 => ?_⟩
          · rw [am_w_id (by omega) (by omega)]
            have := ih (j + 1) (by omega) (by omega) (fun i hi => by
              by_cases hij : i = j
              · rw [hij]; exact h3
              · exact hall i (by omega))
            simpa using this
          · rw [if_neg (fun e => h3 ((tk_x_eq hl).mp e j (by omega)))] at hQ; exact hQ
    exact loop _ 0 (Nat.le_refl _) (Nat.zero_le _) (fun i hi => by omega)
  · rw [if_neg (fun e => by rw [← e, tk_x_len] at h; omega)] at hQ; exact hQ
theorem rc_101 {d : Nat} {T : tk_T} {s lo hi : Int} {M : am_M} {Q : List am_V → am_M → Prop} (hL : nm_Lay M) (hS : rc_tk M T s) (h1 : s ≤ T.2) (h0 : 0 ≤ lo) (hh : hi ≤ 1000) (hy : tk_n T s lo hi → Q [(0, 1)] M) (hn : ¬ tk_n T s lo hi → Q [(0, 0)] M) : am_CL d 101 [(2, 30), (0, lo), (0, hi)] M Q := by
  have hc := tk_c_n (T := T) (s := s) (lo := lo) (hi := hi) h1 h0 hh
  refine h_101_0 hL ?_
  rw [hS.2.2.1, hS.2.2.2]
  by_cases hk : tk_k T s = 2
  · rw [if_pos hk]
    exact ⟨fun h => absurd h (by decide), fun _ => ⟨fun h => hn (fun q => by have := hc.mpr q; omega), fun h => ⟨fun h2 => hn (fun q => by have := hc.mpr q; omega), fun h2 => hy (hc.mp ⟨hk, by omega, by omega⟩)⟩⟩⟩
  · rw [if_neg hk]
    exact ⟨fun _ => hn (fun q => hk q.1), fun h => absurd rfl h⟩
theorem rc_or {op ar : Int} (h0 : 0 ≤ op) (h1 : op < 14) (h2 : 0 ≤ ar) (h3 : ar < 65536) : am_or (am_shl op 16) ar = nm_cw op ar := by
  obtain ⟨o, rfl⟩ := Int.eq_ofNat_of_zero_le h0
  obtain ⟨a, rfl⟩ := Int.eq_ofNat_of_zero_le h2
  rw [show (16 : Int) = ((16 : Nat) : Int) from rfl, nb_shl (by decide) (by omega), nb_or (by omega) (by omega)]
  have h : o * 2 ^ 16 ||| a = o * 2 ^ 16 + a := by
    rw [Nat.mul_comm]; exact (Nat.two_pow_add_eq_or_of_lt (by omega) o).symm
  rw [h]; unfold nm_cw; omega
theorem rc_or2 {op ar : Int} (h0 : 0 ≤ op) (h1 : op < 14) (h2 : 0 ≤ ar) (h3 : ar < 65536) : am_or (nm_cw op 0) ar = nm_cw op ar := by
  have := rc_or h0 h1 (ar := 0) (by decide) (by decide)
  rw [← rc_or h0 h1 h2 h3]
  obtain ⟨o, rfl⟩ := Int.eq_ofNat_of_zero_le h0
  obtain ⟨a, rfl⟩ := Int.eq_ofNat_of_zero_le h2
  rw [show (16 : Int) = ((16 : Nat) : Int) from rfl, nb_shl (by decide) (by omega)]
  exact congrArg (fun q => am_or q (a : Int)) (show nm_cw (o : Int) 0 = ((o * 2 ^ 16 : Nat) : Int) by unfold nm_cw; omega)
/-- what a token says, by its text -/
def rd_lk (x : List Int) : Int := if x = rd_tx 0 then 0 else if x = rd_tx 1 then 1 else if x = rd_tx 2 then 2 else if x = rd_tx 3 then 3 else -1
def rd_okk (x : List Int) : Int := if x = rd_tx 4 then 0 else if x = rd_tx 5 then 1 else if x = rd_tx 6 then 2 else if x = rd_tx 7 then 3 else -1
def rd_lw (x : List Int) : Int := if x = rd_tx 10 then 0 else if x = rd_tx 11 then 1 else if x = rd_tx 12 then 2 else if x = rd_tx 13 then 3 else if x = rd_tx 14 then 4 else if x = rd_tx 15 then 5 else if x = rd_tx 16 then 6 else if x = rd_tx 17 then 7 else -1
def rd_ow (x : List Int) : Int := if x = rd_tx 16 then 0 else if x = rd_tx 18 then 1 else if x = rd_tx 19 then 2 else if x = rd_tx 20 then 3 else if x = rd_tx 15 then 4 else if x = rd_tx 21 then 10 else -1
def rd_jn (x : List Int) : Int := if x = rd_tx 22 then 6 else if x = rd_tx 23 then 7 else if x = rd_tx 24 then 8 else if x = rd_tx 25 then 9 else if x = rd_tx 26 then 10 else -1
def rd_cm (x : List Int) : Int := if x = rd_tx 33 then 11 else if x = rd_tx 34 then 12 else if x = rd_tx 35 then 13 else -1
theorem rc_109 {d : Nat} {T : tk_T} {s : Int} {M : am_M} {Q : List am_V → am_M → Prop} (hd : 5 ≤ d) (hL : nm_Lay M) (hT : tk_ok T) (hP : rc_tp M T) (hS : rc_tk M T s) (h0 : 0 ≤ s) (h1 : s ≤ T.2) (hQ : Q [(0, rd_jn (tk_x T s))] M) : am_CL d 109 [(2, 30)] M Q := by
  refine h_109_0 hL ⟨by omega, rc_98 22 rfl (by decide) (by omega) hL hT hP hS h0 h1 ?_⟩
  by_cases e0 : tk_x T s = rd_tx 22
  · rw [if_pos e0]; unfold rd_jn at hQ; rw [if_pos e0] at hQ; exact h_109_6 hL ⟨fun h => absurd h (by decide), fun _ => hQ⟩
  rw [if_neg e0]
  refine h_109_6 hL ⟨fun _ => ⟨by omega, rc_98 23 rfl (by decide) (by omega) hL hT hP hS h0 h1 ?_⟩, fun h => absurd rfl h⟩
  by_cases e1 : tk_x T s = rd_tx 23
  · rw [if_pos e1]; unfold rd_jn at hQ; rw [if_neg e0, if_pos e1] at hQ; exact h_109_18 hL ⟨fun h => absurd h (by decide), fun _ => hQ⟩
  rw [if_neg e1]
  refine h_109_18 hL ⟨fun _ => ⟨by omega, rc_98 24 rfl (by decide) (by omega) hL hT hP hS h0 h1 ?_⟩, fun h => absurd rfl h⟩
  by_cases e2 : tk_x T s = rd_tx 24
  · rw [if_pos e2]; unfold rd_jn at hQ; rw [if_neg e0, if_neg e1, if_pos e2] at hQ; exact h_109_30 hL ⟨fun h => absurd h (by decide), fun _ => hQ⟩
  rw [if_neg e2]
  refine h_109_30 hL ⟨fun _ => ⟨by omega, rc_98 25 rfl (by decide) (by omega) hL hT hP hS h0 h1 ?_⟩, fun h => absurd rfl h⟩
  by_cases e3 : tk_x T s = rd_tx 25
  · rw [if_pos e3]; unfold rd_jn at hQ; rw [if_neg e0, if_neg e1, if_neg e2, if_pos e3] at hQ; exact h_109_44 hL ⟨fun h => absurd h (by decide), fun _ => hQ⟩
  rw [if_neg e3]
  refine h_109_44 hL ⟨fun _ => ⟨by omega, rc_98 26 rfl (by decide) (by omega) hL hT hP hS h0 h1 ?_⟩, fun h => absurd rfl h⟩
  by_cases e4 : tk_x T s = rd_tx 26
  · rw [if_pos e4]; unfold rd_jn at hQ; rw [if_neg e0, if_neg e1, if_neg e2, if_neg e3, if_pos e4] at hQ; exact h_109_58 hL ⟨fun h => absurd h (by decide), fun _ => hQ⟩
  rw [if_neg e4]; unfold rd_jn at hQ; rw [if_neg e0, if_neg e1, if_neg e2, if_neg e3, if_neg e4] at hQ
  exact h_109_58 hL ⟨fun _ => hQ, fun h => absurd rfl h⟩
theorem rc_111 {d : Nat} {T : tk_T} {s : Int} {M : am_M} {Q : List am_V → am_M → Prop} (hd : 5 ≤ d) (hL : nm_Lay M) (hT : tk_ok T) (hP : rc_tp M T) (hS : rc_tk M T s) (h0 : 0 ≤ s) (h1 : s ≤ T.2) (hQ : Q [(0, rd_lw (tk_x T s))] M) : am_CL d 111 [(2, 30)] M Q := by
  refine h_111_0 hL ⟨by omega, rc_98 10 rfl (by decide) (by omega) hL hT hP hS h0 h1 ?_⟩
  by_cases e0 : tk_x T s = rd_tx 10
  · rw [if_pos e0]; unfold rd_lw at hQ; rw [if_pos e0] at hQ; exact h_111_6 hL ⟨fun h => absurd h (by decide), fun _ => hQ⟩
  rw [if_neg e0]
  refine h_111_6 hL ⟨fun _ => ⟨by omega, rc_98 11 rfl (by decide) (by omega) hL hT hP hS h0 h1 ?_⟩, fun h => absurd rfl h⟩
  by_cases e1 : tk_x T s = rd_tx 11
  · rw [if_pos e1]; unfold rd_lw at hQ; rw [if_neg e0, if_pos e1] at hQ; exact h_111_17 hL ⟨fun h => absurd h (by decide), fun _ => hQ⟩
  rw [if_neg e1]
  refine h_111_17 hL ⟨fun _ => ⟨by omega, rc_98 12 rfl (by decide) (by omega) hL hT hP hS h0 h1 ?_⟩, fun h => absurd rfl h⟩
  by_cases e2 : tk_x T s = rd_tx 12
  · rw [if_pos e2]; unfold rd_lw at hQ; rw [if_neg e0, if_neg e1, if_pos e2] at hQ; exact h_111_28 hL ⟨fun h => absurd h (by decide), fun _ => hQ⟩
  rw [if_neg e2]
  refine h_111_28 hL ⟨fun _ => ⟨by omega, rc_98 13 rfl (by decide) (by omega) hL hT hP hS h0 h1 ?_⟩, fun h => absurd rfl h⟩
  by_cases e3 : tk_x T s = rd_tx 13
  · rw [if_pos e3]; unfold rd_lw at hQ; rw [if_neg e0, if_neg e1, if_neg e2, if_pos e3] at hQ; exact h_111_39 hL ⟨fun h => absurd h (by decide), fun _ => hQ⟩
  rw [if_neg e3]
  refine h_111_39 hL ⟨fun _ => ⟨by omega, rc_98 14 rfl (by decide) (by omega) hL hT hP hS h0 h1 ?_⟩, fun h => absurd rfl h⟩
  by_cases e4 : tk_x T s = rd_tx 14
  · rw [if_pos e4]; unfold rd_lw at hQ; rw [if_neg e0, if_neg e1, if_neg e2, if_neg e3, if_pos e4] at hQ; exact h_111_50 hL ⟨fun h => absurd h (by decide), fun _ => hQ⟩
  rw [if_neg e4]
  refine h_111_50 hL ⟨fun _ => ⟨by omega, rc_98 15 rfl (by decide) (by omega) hL hT hP hS h0 h1 ?_⟩, fun h => absurd rfl h⟩
  by_cases e5 : tk_x T s = rd_tx 15
  · rw [if_pos e5]; unfold rd_lw at hQ; rw [if_neg e0, if_neg e1, if_neg e2, if_neg e3, if_neg e4, if_pos e5] at hQ; exact h_111_61 hL ⟨fun h => absurd h (by decide), fun _ => hQ⟩
  rw [if_neg e5]
  refine h_111_61 hL ⟨fun _ => ⟨by omega, rc_98 16 rfl (by decide) (by omega) hL hT hP hS h0 h1 ?_⟩, fun h => absurd rfl h⟩
  by_cases e6 : tk_x T s = rd_tx 16
  · rw [if_pos e6]; unfold rd_lw at hQ; rw [if_neg e0, if_neg e1, if_neg e2, if_neg e3, if_neg e4, if_neg e5, if_pos e6] at hQ; exact h_111_72 hL ⟨fun h => absurd h (by decide), fun _ => hQ⟩
  rw [if_neg e6]
  refine h_111_72 hL ⟨fun _ => ⟨by omega, rc_98 17 rfl (by decide) (by omega) hL hT hP hS h0 h1 ?_⟩, fun h => absurd rfl h⟩
  by_cases e7 : tk_x T s = rd_tx 17
  · rw [if_pos e7]; unfold rd_lw at hQ; rw [if_neg e0, if_neg e1, if_neg e2, if_neg e3, if_neg e4, if_neg e5, if_neg e6, if_pos e7] at hQ; exact h_111_84 hL ⟨fun h => absurd h (by decide), fun _ => hQ⟩
  rw [if_neg e7]; unfold rd_lw at hQ; rw [if_neg e0, if_neg e1, if_neg e2, if_neg e3, if_neg e4, if_neg e5, if_neg e6, if_neg e7] at hQ
  exact h_111_84 hL ⟨fun _ => hQ, fun h => absurd rfl h⟩
theorem rc_112 {d : Nat} {T : tk_T} {s : Int} {M : am_M} {Q : List am_V → am_M → Prop} (hd : 5 ≤ d) (hL : nm_Lay M) (hT : tk_ok T) (hP : rc_tp M T) (hS : rc_tk M T s) (h0 : 0 ≤ s) (h1 : s ≤ T.2) (hQ : Q [(0, rd_ow (tk_x T s))] M) : am_CL d 112 [(2, 30)] M Q := by
  refine h_112_0 hL ⟨by omega, rc_98 16 rfl (by decide) (by omega) hL hT hP hS h0 h1 ?_⟩
  by_cases e0 : tk_x T s = rd_tx 16
  · rw [if_pos e0]; unfold rd_ow at hQ; rw [if_pos e0] at hQ; exact h_112_6 hL ⟨fun h => absurd h (by decide), fun _ => hQ⟩
  rw [if_neg e0]
  refine h_112_6 hL ⟨fun _ => ⟨by omega, rc_98 18 rfl (by decide) (by omega) hL hT hP hS h0 h1 ?_⟩, fun h => absurd rfl h⟩
  by_cases e1 : tk_x T s = rd_tx 18
  · rw [if_pos e1]; unfold rd_ow at hQ; rw [if_neg e0, if_pos e1] at hQ; exact h_112_17 hL ⟨fun h => absurd h (by decide), fun _ => hQ⟩
  rw [if_neg e1]
  refine h_112_17 hL ⟨fun _ => ⟨by omega, rc_98 19 rfl (by decide) (by omega) hL hT hP hS h0 h1 ?_⟩, fun h => absurd rfl h⟩
  by_cases e2 : tk_x T s = rd_tx 19
  · rw [if_pos e2]; unfold rd_ow at hQ; rw [if_neg e0, if_neg e1, if_pos e2] at hQ; exact h_112_28 hL ⟨fun h => absurd h (by decide), fun _ => hQ⟩
  rw [if_neg e2]
  refine h_112_28 hL ⟨fun _ => ⟨by omega, rc_98 20 rfl (by decide) (by omega) hL hT hP hS h0 h1 ?_⟩, fun h => absurd rfl h⟩
  by_cases e3 : tk_x T s = rd_tx 20
  · rw [if_pos e3]; unfold rd_ow at hQ; rw [if_neg e0, if_neg e1, if_neg e2, if_pos e3] at hQ; exact h_112_39 hL ⟨fun h => absurd h (by decide), fun _ => hQ⟩
  rw [if_neg e3]
  refine h_112_39 hL ⟨fun _ => ⟨by omega, rc_98 15 rfl (by decide) (by omega) hL hT hP hS h0 h1 ?_⟩, fun h => absurd rfl h⟩
  by_cases e4 : tk_x T s = rd_tx 15
  · rw [if_pos e4]; unfold rd_ow at hQ; rw [if_neg e0, if_neg e1, if_neg e2, if_neg e3, if_pos e4] at hQ; exact h_112_50 hL ⟨fun h => absurd h (by decide), fun _ => hQ⟩
  rw [if_neg e4]
  refine h_112_50 hL ⟨fun _ => ⟨by omega, rc_98 21 rfl (by decide) (by omega) hL hT hP hS h0 h1 ?_⟩, fun h => absurd rfl h⟩
  by_cases e5 : tk_x T s = rd_tx 21
  · rw [if_pos e5]; unfold rd_ow at hQ; rw [if_neg e0, if_neg e1, if_neg e2, if_neg e3, if_neg e4, if_pos e5] at hQ; exact h_112_61 hL ⟨fun h => absurd h (by decide), fun _ => hQ⟩
  rw [if_neg e5]; unfold rd_ow at hQ; rw [if_neg e0, if_neg e1, if_neg e2, if_neg e3, if_neg e4, if_neg e5] at hQ
  exact h_112_61 hL ⟨fun _ => hQ, fun h => absurd rfl h⟩
theorem rc_104l {d : Nat} {T : tk_T} {s : Int} {M : am_M} {Q : List am_V → am_M → Prop} (hd : 5 ≤ d) (hL : nm_Lay M) (hT : tk_ok T) (hP : rc_tp M T) (hS : rc_tk M T s) (h0 : 0 ≤ s) (h1 : s ≤ T.2) (ho : am_gt M 30 3 ≠ 0) (hQ : Q [(0, rd_lk (tk_x T s))] M) : am_CL d 104 [(2, 30)] M Q := by
  refine h_104_0 hL ⟨fun h => absurd h ho, fun _ => ⟨by omega, rc_98 0 rfl (by decide) (by omega) hL hT hP hS h0 h1 ?_⟩⟩
  by_cases e0 : tk_x T s = rd_tx 0
  · rw [if_pos e0]; unfold rd_lk at hQ; rw [if_pos e0] at hQ; exact h_104_13 hL ⟨fun h => absurd h (by decide), fun _ => hQ⟩
  rw [if_neg e0]
  refine h_104_13 hL ⟨fun _ => ⟨by omega, rc_98 1 rfl (by decide) (by omega) hL hT hP hS h0 h1 ?_⟩, fun h => absurd rfl h⟩
  by_cases e1 : tk_x T s = rd_tx 1
  · rw [if_pos e1]; unfold rd_lk at hQ; rw [if_neg e0, if_pos e1] at hQ; exact h_104_26 hL ⟨fun h => absurd h (by decide), fun _ => hQ⟩
  rw [if_neg e1]
  refine h_104_26 hL ⟨fun _ => ⟨by omega, rc_98 2 rfl (by decide) (by omega) hL hT hP hS h0 h1 ?_⟩, fun h => absurd rfl h⟩
  by_cases e2 : tk_x T s = rd_tx 2
  · rw [if_pos e2]; unfold rd_lk at hQ; rw [if_neg e0, if_neg e1, if_pos e2] at hQ; exact h_104_39 hL ⟨fun h => absurd h (by decide), fun _ => hQ⟩
  rw [if_neg e2]
  refine h_104_39 hL ⟨fun _ => ⟨by omega, rc_98 3 rfl (by decide) (by omega) hL hT hP hS h0 h1 ?_⟩, fun h => absurd rfl h⟩
  by_cases e3 : tk_x T s = rd_tx 3
  · rw [if_pos e3]; unfold rd_lk at hQ; rw [if_neg e0, if_neg e1, if_neg e2, if_pos e3] at hQ; exact h_104_52 hL ⟨fun h => absurd h (by decide), fun _ => hQ⟩
  rw [if_neg e3]; unfold rd_lk at hQ; rw [if_neg e0, if_neg e1, if_neg e2, if_neg e3] at hQ
  exact h_104_52 hL ⟨fun _ => hQ, fun h => absurd rfl h⟩
theorem rc_104o {d : Nat} {T : tk_T} {s : Int} {M : am_M} {Q : List am_V → am_M → Prop} (hd : 5 ≤ d) (hL : nm_Lay M) (hT : tk_ok T) (hP : rc_tp M T) (hS : rc_tk M T s) (h0 : 0 ≤ s) (h1 : s ≤ T.2) (ho : am_gt M 30 3 = 0) (hQ : Q [(0, rd_okk (tk_x T s))] M) : am_CL d 104 [(2, 30)] M Q := by
  refine h_104_0 hL ⟨fun _ => ⟨by omega, rc_98 4 rfl (by decide) (by omega) hL hT hP hS h0 h1 ?_⟩, fun h => absurd ho h⟩
  by_cases e0 : tk_x T s = rd_tx 4
  · rw [if_pos e0]; unfold rd_okk at hQ; rw [if_pos e0] at hQ; exact h_104_67 hL ⟨fun h => absurd h (by decide), fun _ => hQ⟩
  rw [if_neg e0]
  refine h_104_67 hL ⟨fun _ => ⟨by omega, rc_98 5 rfl (by decide) (by omega) hL hT hP hS h0 h1 ?_⟩, fun h => absurd rfl h⟩
  by_cases e1 : tk_x T s = rd_tx 5
  · rw [if_pos e1]; unfold rd_okk at hQ; rw [if_neg e0, if_pos e1] at hQ; exact h_104_80 hL ⟨fun h => absurd h (by decide), fun _ => hQ⟩
  rw [if_neg e1]
  refine h_104_80 hL ⟨fun _ => ⟨by omega, rc_98 6 rfl (by decide) (by omega) hL hT hP hS h0 h1 ?_⟩, fun h => absurd rfl h⟩
  by_cases e2 : tk_x T s = rd_tx 6
  · rw [if_pos e2]; unfold rd_okk at hQ; rw [if_neg e0, if_neg e1, if_pos e2] at hQ; exact h_104_93 hL ⟨fun h => absurd h (by decide), fun _ => hQ⟩
  rw [if_neg e2]
  refine h_104_93 hL ⟨fun _ => ⟨by omega, rc_98 7 rfl (by decide) (by omega) hL hT hP hS h0 h1 ?_⟩, fun h => absurd rfl h⟩
  by_cases e3 : tk_x T s = rd_tx 7
  · rw [if_pos e3]; unfold rd_okk at hQ; rw [if_neg e0, if_neg e1, if_neg e2, if_pos e3] at hQ; exact h_104_106 hL ⟨fun h => absurd h (by decide), fun _ => hQ⟩
  rw [if_neg e3]; unfold rd_okk at hQ; rw [if_neg e0, if_neg e1, if_neg e2, if_neg e3] at hQ
  exact h_104_106 hL ⟨fun _ => hQ, fun h => absurd rfl h⟩
