/-! CALLS OF THE REFERENCE, the plain ones -/
theorem nm_MU_S {M : am_M} {S S' : Int → Int} {U : List (Int × nm_W)} (h : nm_MU M S U) (e : ∀ i, 5 ≤ i → i ≤ 7 → S' i = S i) : nm_MU M S' U :=
  ⟨h.1, h.2.1, fun k hk => ⟨(h.2.2 k hk).1, (h.2.2 k hk).2.1, fun i a b => by rw [e i a b]; exact (h.2.2 k hk).2.2 i a b⟩⟩
theorem nm_MU_nil {M : am_M} {S : Int → Int} (h : am_gt M 214 8 = 0) : nm_MU M S [] := ⟨h, by decide, fun k hk => absurd hk (by simp)⟩
theorem nm_MS_up {M : am_M} {S : Int → Int} {j v : Int} (h : nm_MS M S) : nm_MS (am_st M 216 j v) (nm_up S j v) := by
  intro i hi
  by_cases e : i = j
  · subst e; rw [nm_st_eq, nm_up_eq]
  · rw [nm_st_nj e, nm_up_ne e]; exact h i hi
theorem nm_MS_st {M : am_M} {S : Int → Int} {j v : Int} (h : nm_MS M S) (hj : ¬ nm_si j) : nm_MS (am_st M 216 j v) S := by
  intro i hi
  rw [nm_st_nj (show i ≠ j from fun e => hj (e ▸ hi))]; exact h i hi
theorem nm_MW_st {M : am_M} {W : nm_W} {j v : Int} (h : nm_MW M W) (hj : j < 4 ∨ (5 ≤ j ∧ j ≤ 7) ∨ 29 ≤ j) : nm_MW (am_st M 216 j v) W := by
  obtain ⟨h1, h2, h3, h4, h5, h6⟩ := h
  refine ⟨by rw [nm_st_nj (by omega)]; exact h1, by rw [nm_st_nj (by omega)]; exact h2, h3, fun p hp => by rw [nm_st_nj (by omega)]; exact h4 p hp, fun m a b => by rw [nm_st_nj (by omega)]; exact h5 m a b, fun p a b => by rw [nm_st_nj (by omega)]; exact h6 p a b⟩
theorem nm_MX_st {M : am_M} {S S' : Int → Int} {D : Int → nm_T} {j v : Int} (h : nm_MX M S D) (hj : j < 110) (e : S' 2 = S 2) : nm_MX (am_st M 216 j v) S' D := by
  intro k k0 k1
  rw [e] at k1
  exact nm_MT_kp (h k k0 k1) (by omega) (fun i hi => nm_st_nj (by omega))
theorem nm_MW_n {M : am_M} {W : nm_W} {v : Int} (h : nm_MW M W) : nm_MW (am_st M 216 4 v) (v, W.2) := by
  obtain ⟨h1, h2, h3, h4, h5, h6⟩ := h
  refine ⟨nm_st_eq, by rw [nm_st_nj (by omega)]; exact h2, h3, fun p hp => by rw [nm_st_nj (by omega)]; exact h4 p hp, fun m a b => by rw [nm_st_nj (by omega)]; exact h5 m a b, fun p a b => by rw [nm_st_nj (by omega)]; exact h6 p a b⟩
theorem nm_MW_s {M : am_M} {W : nm_W} {m v : Int} (h : nm_MW M W) (m0 : 0 ≤ m) (m6 : m < 6) : nm_MW (am_st M 216 (15 + m) v) (W.1, W.2.1, nm_up W.2.2.1 m v, W.2.2.2) := by
  obtain ⟨h1, h2, h3, h4, h5, h6⟩ := h
  refine ⟨by rw [nm_st_nj (by omega)]; exact h1, by rw [nm_st_nj (by omega)]; exact h2, h3, fun p hp => by have hp' : p < W.2.1.length := hp; rw [nm_st_nj (by omega)]; exact h4 p hp, fun k a b => ?_, fun p a b => by rw [nm_st_nj (by omega)]; exact h6 p a b⟩
  show _ = nm_up W.2.2.1 m v k
  by_cases e : k = m
  · subst e; rw [nm_st_eq, nm_up_eq]
  · rw [nm_st_nj (by omega), nm_up_ne e]; exact h5 k a b
theorem nm_MW_t {M : am_M} {W : nm_W} {m v : Int} (h : nm_MW M W) (m0 : 0 ≤ m) (m8 : m < 8) : nm_MW (am_st M 216 (21 + m) v) (W.1, W.2.1, W.2.2.1, nm_up W.2.2.2 m v) := by
  obtain ⟨h1, h2, h3, h4, h5, h6⟩ := h
  refine ⟨by rw [nm_st_nj (by omega)]; exact h1, by rw [nm_st_nj (by omega)]; exact h2, h3, fun p hp => by have hp' : p < W.2.1.length := hp; rw [nm_st_nj (by omega)]; exact h4 p hp, fun k a b => by rw [nm_st_nj (by omega)]; exact h5 k a b, fun k a b => ?_⟩
  show _ = nm_up W.2.2.2 m v k
  by_cases e : k = m
  · subst e; rw [nm_st_eq, nm_up_eq]
  · rw [nm_st_nj (by omega), nm_up_ne e]; exact h6 k a b
/-- one number of the state changed -/
theorem nm_M_up {M : am_M} {X : nm_X} {j v : Int} (hok : nm_ok X) (h : nm_M M X) (hj : nm_si j) (hj2 : j < 4 ∨ 29 ≤ j) (hj3 : j ≠ 2) (hO : nm_okS (nm_up (nx_S X) j v)) : nm_M (am_st M 216 j v) (ns_S X (nm_up (nx_S X) j v)) := by
  have F : nm_Fr [(216, 0, 110)] M (am_st M 216 j v) := nm_Fr_st (nm_Fg_refl _ _) (nm_in_c (lo := 0) (hi := 110) (by decide) (by unfold nm_si at hj; omega) (by unfold nm_si at hj; omega))
  obtain ⟨m1, m2, m3, m4, m5, m6⟩ := h
  have hL := m1.1
  obtain ⟨a1, a2, a3, a4, a5, a6⟩ := m1
  exact ⟨⟨nm_Lay_fr hL F (by decide +kernel), nm_MS_up a2, nm_MW_st a3 (by unfold nm_si at hj; omega), hO, nm_MX_st a5 (by unfold nm_si at hj; omega) (nm_up_ne (fun e => hj3 e.symm)), by rw [nm_st_ne (by decide)]; exact a6⟩, fun k a b => ⟨(nm_gt_frn F hL (by decide) (by decide +kernel)).trans (m2 k a b).1, fun e => nm_MI_fr (nm_ok_I hok a b e) ((m2 k a b).2 e) hL F (by decide +kernel)⟩, nm_MU_S (nm_MU_fr m3 hL F (by decide +kernel) (by decide +kernel) (by decide +kernel)) (fun i a b => nm_up_ne (by omega)), nm_MP_fr m4 hL F (by decide +kernel) (by decide +kernel), nm_MR_fr m5 hL F (by decide +kernel) (by decide +kernel), nm_MY_fr m6 hL F (by decide +kernel)⟩
/-- the same, through change -/
theorem nmy_146 {d : Nat} {j v : Int} {X : nm_X} {M : am_M} {Q : List am_V → am_M → Prop} (hok : nm_ok X) (hM : nm_M M X) (hj : nm_si j) (hj2 : j < 4 ∨ 29 ≤ j) (hj3 : j ≠ 2) (hO : nm_okS (nm_up (nx_S X) j v)) (hQ : ∀ M', nm_Fr [(216, 0, 110), (214, 1, 2)] M M' → nm_M M' (nx_fn (ns_S X (nm_up (nx_S X) j v))) → Q [(0, nx_S X j)] M') : am_CL d 146 [(2, 214), (0, j), (0, v)] M Q := by
  have hb : 0 ≤ j ∧ j < 110 := by unfold nm_si at hj; omega
  refine h_146_0 (nm_M_L hM) ⟨by omega, by omega, ?_⟩
  rw [hM.1.2.1 j hj]
  have C1 := nm_M_up (v := v) hok hM hj hj2 hj3 hO
  have F1 : nm_Fr [(216, 0, 110), (214, 1, 2)] M (am_st M 216 j v) := nm_Fr_st (nm_Fg_refl _ _) (nm_in_c (lo := 0) (hi := 110) (by decide) hb.1 hb.2)
  refine hQ _ (nm_Fr_st F1 (by decide)) ?_
  have F : nm_Fr [(214, 1, 2)] (am_st M 216 j v) (am_st (am_st M 216 j v) 214 1 0) := nm_Fr_st (nm_Fg_refl _ _) (by decide)
  have hM1 := C1
  have hL := nm_M_L C1
  obtain ⟨m1, m2, m3, m4, m5, m6⟩ := hM1
  have hok' : nm_ok X := hok
  obtain ⟨r0, r1, r2, r3, r4, r5⟩ := m5
  exact ⟨nm_MA_fr m1 F (by decide +kernel) (by decide +kernel) (by decide +kernel), fun k a b => ⟨(nm_gt_frn F hL (by decide) (by decide +kernel)).trans (m2 k a b).1, fun e => nm_MI_fr (nm_ok_I hok' a b e) ((m2 k a b).2 e) hL F (by decide +kernel)⟩, nm_MU_fr m3 hL F (by decide +kernel) (by decide +kernel) (by decide +kernel), nm_MP_fr m4 hL F (by decide +kernel) (by decide +kernel), ⟨by rw [nm_st_eq]; show (0 : Int) = nm_up (nx_R X) 0 0 0; rw [nm_up_eq], fun j a b c => by rw [nm_st_ne (by decide)]; show _ = nm_up _ 0 0 j; rw [nm_up_ne (by omega)]; exact r1 j a b c, by rw [nm_st_nj (by decide)]; exact r2, by rw [nm_st_nj (by decide)]; exact r3, by rw [nm_st_nj (by decide)]; exact r4, by rw [nm_st_nj (by decide)]; exact r5⟩, nm_MY_fr m6 hL F (by decide +kernel)⟩
theorem nmq_12 {d : Nat} {X : nm_X} {M : am_M} {Q : List am_V → am_M → Prop} (hok : nm_ok X) (hM : nm_M M X) (hQ : nm_KM (sp_12 X).1 [(0, (sp_12 X).2)] M Q) : am_CL d 169 [(2, 214)] M Q := by
  refine h_169_0 (nm_M_L hM) ?_
  rw [show am_gt M 214 11 = nx_R X 7 from hM.2.2.2.2.1.2.2.1]; exact hQ _ nm_m0F (nm_m0 hok hM)
theorem nmq_15 {d : Nat} {X : nm_X} {M : am_M} {Q : List am_V → am_M → Prop} (hok : nm_ok X) (hM : nm_M M X) (hQ : nm_KM (sp_15 X).1 [(0, (sp_15 X).2)] M Q) : am_CL d 181 [(2, 214)] M Q := by
  refine h_181_0 (nm_M_L hM) ?_
  rw [show am_gt M 214 18 = nx_R X 8 from hM.2.2.2.2.1.2.2.2.1]; exact hQ _ nm_m0F (nm_m0 hok hM)
theorem nmq_16 {d : Nat} {X : nm_X} {M : am_M} {Q : List am_V → am_M → Prop} (hok : nm_ok X) (hM : nm_M M X) (hQ : nm_KM (sp_16 X).1 [(0, (sp_16 X).2)] M Q) : am_CL d 256 [(2, 214)] M Q := by
  refine h_256_0 (nm_M_L hM) ?_
  rw [show am_gt M 214 54 = nx_R X 9 from hM.2.2.2.2.1.2.2.2.2.1]; exact hQ _ nm_m0F (nm_m0 hok hM)
theorem nmq_42 {d : Nat} {X : nm_X} {M : am_M} {Q : List am_V → am_M → Prop} (hok : nm_ok X) (hM : nm_M M X) (hQ : nm_KM (sp_42 X).1 [(0, (sp_42 X).2)] M Q) : am_CL d 261 [(2, 214)] M Q := by
  refine h_261_0 (nm_M_L hM) ?_
  rw [show am_gt M 214 1 = nx_R X 0 from hM.2.2.2.2.1.1]; exact hQ _ nm_m0F (nm_m0 hok hM)
/-- mirror -/
theorem nm_up_comm {S : Int → Int} {i j x y : Int} (h : i ≠ j) : nm_up (nm_up S i x) j y = nm_up (nm_up S j y) i x := by
  funext k
  unfold nm_up
  by_cases h1 : k = j
  · rw [if_pos h1, if_neg (by omega), if_pos h1]
  · rw [if_neg h1]
    by_cases h2 : k = i
    · rw [if_pos h2, if_pos h2]
    · rw [if_neg h2, if_neg h2, if_neg h1]
theorem nm_dg_comm {b j x : Int} : ∀ {k : Nat} {v : Int} {S : Int → Int}, (j < b ∨ b + (k : Int) ≤ j) → nm_dg b k v (nm_up S j x) = nm_up (nm_dg b k v S) j x
  | 0, _, _, _ => rfl
  | k + 1, v, S, h => by
    show nm_dg b k (v / 10) (nm_up (nm_up S j x) (b + (k : Int)) (v % 10 - 1)) = nm_up (nm_dg b k (v / 10) (nm_up S (b + (k : Int)) (v % 10 - 1))) j x
    rw [nm_up_comm (by omega), nm_dg_comm (by omega)]
theorem nmq_1 {d : Nat} {v b s : Int} {X : nm_X} {M : am_M} {Q : List am_V → am_M → Prop} (hd : 3 ≤ d) (hv : am_i32 v) (hok : nm_ok X) (hM : nm_M M X) (hQ : nm_KM (sp_1 X v b s).1 [(0, (sp_1 X v b s).2)] M Q) : am_CL d 159 [(2, 214), (0, v), (0, b), (0, s)] M Q := by
  have F0 := nm_m0F (M := M)
  have hM0 := nm_m0 hok hM
  have hM1 := hM0
  have hL := nm_M_L hM0
  refine h_159_0 (nm_M_L hM) ⟨by omega, nmm_158 (by omega) hL ?_⟩
  generalize am_st M 214 0 0 = M0 at F0 hM0 hM1 hL ⊢
  obtain ⟨m1, m2, m3, m4, m5, m6⟩ := hM1
  obtain ⟨a1, hS, hW, hO, hX, a6⟩ := m1
  have o0 := hO.1
  have hpi := nm_pc_in (v := v)
  have e0 : am_gt M0 216 0 = nx_S X 0 := hS 0 (by unfold nm_si; omega)
  have R1 : ∀ x : Int, (nm_pc v = 0 ∨ b < 0 ∨ 7 < b ∨ s < 1 ∨ 30 < s) → 0 < d ∧ am_CL (d - 1) 145 [(2, 214), (0, (-1))] M0 (fun r M' => am_WP d am_c159 46 [(2, 214), (0, v), (0, b), (0, s), (0, x), (9, 0), (9, 0), (9, 0)] (r ++ []) M' Q) := by
    intro x h
    unfold sp_1 at hQ; rw [if_pos h] at hQ
    exact ⟨by omega, nmq_ref (k := 159) hok (by decide) F0 hM0 (fun M' L q => h_159_46 L q) hQ⟩
  by_cases hp : nm_pc v = 0
  · rw [if_pos hp]
    exact h_159_9 hL ⟨fun _ => R1 _ (.inl hp), fun h => absurd rfl h⟩
  rw [if_neg hp]
  refine h_159_9 hL ⟨fun h => absurd h (by omega), fun _ => ⟨by omega, nmm_142 hL (fun b0 b1 => ?_) (fun b0 => h_159_26 hL ⟨fun _ => R1 _ (by omega), fun h => absurd rfl h⟩)⟩⟩
  refine h_159_26 hL ⟨fun h => absurd h (by decide), fun _ => ⟨by omega, nmm_142 hL (fun c0 c1 => ?_) (fun c0 => h_159_38 hL ⟨fun h => absurd rfl h, fun _ => R1 _ (by omega)⟩)⟩⟩
  refine h_159_38 hL ⟨fun _ => ?_, fun h => absurd h (by decide)⟩
  rw [e0]
  refine ⟨fun h6 => ?_, fun h6 => ?_⟩
  · unfold sp_1 at hQ; rw [if_neg (by omega), if_neg (by omega)] at hQ
    have h6' : nx_S X 0 < 6 := by omega
    rw [am_w_id (x := 29 + nx_S X 0) (by omega) (by omega), am_w_id (x := nm_pc v - 1) (by omega) (by omega)]
    refine ⟨by omega, by omega, ?_⟩
    have lay : ∀ {M'}, nm_Fr [(216, 0, 110)] M0 M' → nm_Lay M' := fun F => nm_Lay_fr hL F (by decide +kernel)
    have key : ∀ k : Nat, (k : Int) ≤ nm_pc v → ∀ (rest : Int) (M1 : am_M) (S1 : Int → Int), 0 ≤ rest → rest ≤ 2147483647 → nm_Fr [(216, 0, 110)] M0 M1 → nm_MS M1 S1 → nm_MW M1 (nx_W X) → nm_MX M1 S1 (nx_D X) → S1 0 = nx_S X 0 → S1 2 = nx_S X 2 → nm_dg (35 + 5 * nx_S X 0) k rest S1 = nm_up (nm_dg (35 + 5 * nx_S X 0) (nm_pc v).toNat v (nx_S X)) (29 + nx_S X 0) (nm_pc v) → am_WP d am_c159 90 [(2, 214), (0, v), (0, b), (0, s), (0, nm_pc v), (0, nx_S X 0), (0, rest), (0, (k : Int) - 1)] [] M1 Q := by
      intro k
      induction k with
      | zero =>
        intro hk rest M1 S1 r0 r1 F S1h W1 X1 z0 z2 e
        have e' : S1 = nm_up (nm_dg (35 + 5 * nx_S X 0) (nm_pc v).toNat v (nx_S X)) (29 + nx_S X 0) (nm_pc v) := e
        refine h_159_90 (lay F) ⟨fun _ => ?_, fun h => absurd h (by decide)⟩
        rw [am_w_id (x := 65 + nx_S X 0) (by omega) (by omega)]
        refine ⟨by omega, by omega, ?_⟩
        have F2 := nm_Fr_st (a := 216) (i := 65 + nx_S X 0) (v := b) F (nm_in_c (lo := 0) (hi := 110) (by decide) (by omega) (by omega))
        have S2 := nm_MS_up (j := 65 + nx_S X 0) (v := b) S1h
        have W2 := nm_MW_st (j := 65 + nx_S X 0) (v := b) W1 (by omega)
        have X2 := nm_MX_st (S' := nm_up S1 (65 + nx_S X 0) b) (j := 65 + nx_S X 0) (v := b) X1 (by omega) (nm_up_ne (by omega))
        refine h_159_141 (lay F2) ?_
        rw [am_w_id (x := 15 + nx_S X 0) (by omega) (by omega)]
        refine ⟨by omega, by omega, ?_⟩
        have F3 := nm_Fr_st (a := 216) (i := 15 + nx_S X 0) (v := s) F2 (nm_in_c (lo := 0) (hi := 110) (by decide) (by omega) (by omega))
        have S3 := nm_MS_st (j := 15 + nx_S X 0) (v := s) S2 (by unfold nm_si; omega)
        have W3 := nm_MW_s (m := nx_S X 0) (v := s) W2 (by omega) (by omega)
        have X3 := nm_MX_st (S' := nm_up S1 (65 + nx_S X 0) b) (j := 15 + nx_S X 0) (v := s) X2 (by omega) rfl
        refine h_159_152 (lay F3) ?_
        rw [am_w_id (x := 71 + nx_S X 0) (by omega) (by omega)]
        have F4 := nm_Fr_st (a := 216) (i := 71 + nx_S X 0) (v := 0) F3 (nm_in_c (lo := 0) (hi := 110) (by decide) (by omega) (by omega))
        have S4 := nm_MS_up (j := 71 + nx_S X 0) (v := 0) S3
        have W4 := nm_MW_st (j := 71 + nx_S X 0) (v := 0) W3 (by omega)
        have X4 := nm_MX_st (S' := nm_up (nm_up S1 (65 + nx_S X 0) b) (71 + nx_S X 0) 0) (j := 71 + nx_S X 0) (v := 0) X3 (by omega) (nm_up_ne (by omega))
        have z4 : am_gt (am_st (am_st (am_st M1 216 (65 + nx_S X 0) b) 216 (15 + nx_S X 0) s) 216 (71 + nx_S X 0) 0) 216 0 = nx_S X 0 := by
          rw [S4 0 (by unfold nm_si; omega), nm_up_ne (by omega), nm_up_ne (by omega)]; exact z0
        rw [z4, am_w_id (x := nx_S X 0 + 1) (by omega) (by omega)]
        refine ⟨by omega, by omega, by omega, ?_⟩
        have F5 := nm_Fr_st (a := 216) (i := 0) (v := nx_S X 0 + 1) F4 (by decide)
        have S5 := nm_MS_up (j := 0) (v := nx_S X 0 + 1) S4
        have W5 := nm_MW_st (j := 0) (v := nx_S X 0 + 1) W4 (by omega)
        have X5 := nm_MX_st (S' := nm_up (nm_up (nm_up S1 (65 + nx_S X 0) b) (71 + nx_S X 0) 0) 0 (nx_S X 0 + 1)) (j := 0) (v := nx_S X 0 + 1) X4 (by omega) (nm_up_ne (by omega))
        have eS : nm_up (nm_up (nm_up S1 (65 + nx_S X 0) b) (71 + nx_S X 0) 0) 0 (nx_S X 0 + 1) = nm_addS (nx_S X) v (nm_pc v) b := by rw [e']; rfl
        rw [eS] at S5 X5
        generalize am_st (am_st (am_st (am_st M1 216 (65 + nx_S X 0) b) 216 (15 + nx_S X 0) s) 216 (71 + nx_S X 0) 0) 216 0 (nx_S X 0 + 1) = M5 at F5 S5 W5 X5 ⊢
        have hL5 := lay F5
        refine h_147_0 hL5 ⟨fun _ => ⟨by omega, ?_⟩, fun h => absurd o0.1 h⟩
        have F6 : nm_Fr [(216, 0, 110), (214, 8, 9)] M0 (am_st M5 214 8 0) := nm_Fr_st (nm_Fr_sub F5 (by decide)) (by decide)
        have hok1 := hok
        have C6 : nm_M (am_st M5 214 8 0) (ns_U (ns_W (ns_S X (nm_addS (nx_S X) v (nm_pc v) b)) ((nx_W X).1, (nx_W X).2.1, nm_up (nx_W X).2.2.1 (nx_S X 0) s, (nx_W X).2.2.2)) []) :=
          ⟨⟨nm_Lay_fr hL F6 (by decide +kernel), fun i hi => by rw [nm_st_ne (by decide)]; exact S5 i hi, nm_MW_kp W5 (fun i => nm_st_ne (by decide)), nm_okS_add hO h6' hp b0 b1, nm_MX_kp X5 (fun i _ => nm_st_ne (by decide)), by rw [nm_gt_frd (g := [(214, 20, 21)]) F6 hL (by decide) (by decide +kernel) (by decide +kernel)]; exact a6⟩, fun k a b => ⟨(nm_gt_frn F6 hL (by decide) (by decide +kernel)).trans (m2 k a b).1, fun e => nm_MI_fr (nm_ok_I hok a b e) ((m2 k a b).2 e) hL F6 (by decide +kernel)⟩, nm_MU_nil nm_st_eq, nm_MP_fr m4 hL F6 (by decide +kernel) (by decide +kernel), nm_MR_fr m5 hL F6 (by decide +kernel) (by decide +kernel), nm_MY_fr m6 hL F6 (by decide +kernel)⟩
        refine nmm_145 (R := nx_R X) (by omega) (nm_M_L C6) C6.2.2.2.2.1 (fun M7 F7 r7 => ?_)
        have hL7 := nm_Lay_fr (nm_M_L C6) F7 (by decide +kernel)
        refine h_147_21 hL7 (h_159_179 hL7 (hQ M7 (nm_Fr_trans F0 (nm_Fr_trans (nm_mF F6 (by decide +kernel)) (nm_mF F7 (by decide +kernel)))) ?_))
        have hM1 := C6
        have hL := nm_M_L C6
        obtain ⟨m1, m2, m3, m4, m5, m6⟩ := hM1
        have r8 : nm_MR M7 (nm_fn1 (nx_R X)) := by unfold nm_tl1 at r7; rw [if_neg (by omega)] at r7; exact r7
        exact ⟨nm_MA_fr m1 F7 (by decide +kernel) (by decide +kernel) (by decide +kernel), fun k a b => ⟨(nm_gt_frn F7 hL (by decide) (by decide +kernel)).trans (m2 k a b).1, fun e => nm_MI_fr (nm_ok_I hok1 a b e) ((m2 k a b).2 e) hL F7 (by decide +kernel)⟩, nm_MU_fr m3 hL F7 (by decide +kernel) (by decide +kernel) (by decide +kernel), nm_MP_fr m4 hL F7 (by decide +kernel) (by decide +kernel), r8, nm_MY_fr m6 hL F7 (by decide +kernel)⟩
      | succ k ih =>
        intro hk rest M1 S1 r0 r1 F S1h W1 X1 z0 z2 e
        refine h_159_90 (lay F) ⟨fun h => absurd h (by omega), fun _ => ?_⟩
        rw [am_w_id (x := 5 * nx_S X 0) (by omega) (by omega), am_w_id (x := 35 + 5 * nx_S X 0) (by omega) (by omega), am_w_id (x := 35 + 5 * nx_S X 0 + _) (by omega) (by omega), nm_td r0, nm_tm r0, am_w_id (x := rest / 10) (by omega) (by omega), am_w_id (x := rest % 10 - 1) (by omega) (by omega), am_w_id (x := _ + -1) (by omega) (by omega)]
        refine ⟨by omega, by omega, ?_⟩
        have hx : 35 + 5 * nx_S X 0 + (((k + 1 : Nat) : Int) - 1) = 35 + 5 * nx_S X 0 + (k : Int) := by omega
        have hy : ((k + 1 : Nat) : Int) - 1 + -1 = (k : Int) - 1 := by omega
        rw [hx, hy]
        exact ih (by omega) (rest / 10) _ (nm_up S1 (35 + 5 * nx_S X 0 + (k : Int)) (rest % 10 - 1)) (by omega) (by omega) (nm_Fr_st F (nm_in_c (lo := 0) (hi := 110) (by decide) (by omega) (by omega))) (nm_MS_up S1h) (nm_MW_st W1 (by omega)) (nm_MX_st X1 (by omega) (nm_up_ne (by omega))) (by rw [nm_up_ne (by omega)]; exact z0) (by rw [nm_up_ne (by omega)]; exact z2) e
    have := key (nm_pc v).toNat (by omega) v (am_st M0 216 (29 + nx_S X 0) (nm_pc v)) (nm_up (nx_S X) (29 + nx_S X 0) (nm_pc v)) (by have := (nm_pc_dig hp).1; omega) hv.2 (nm_Fr_st (nm_Fg_refl _ _) (nm_in_c (lo := 0) (hi := 110) (by decide) (by omega) (by omega))) (nm_MS_up hS) (nm_MW_st hW (by omega)) (nm_MX_st hX (by omega) (nm_up_ne (by omega))) (nm_up_ne (by omega)) (nm_up_ne (by omega)) (nm_dg_comm (by omega))
    rw [show (((nm_pc v).toNat : Nat) : Int) - 1 = nm_pc v - 1 by omega] at this
    exact this
  · unfold sp_1 at hQ; rw [if_neg (by omega), if_pos (by omega)] at hQ
    exact ⟨by omega, nmq_ref (k := 159) hok (by decide) F0 hM0 (fun M' L q => h_159_68 L q) hQ⟩
