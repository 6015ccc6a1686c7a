/-! CALLS OF THE CLASS, the plain ones -/
abbrev nm_KC (X : nm_X) (r : List am_V) (M : am_M) (Q : List am_V → am_M → Prop) : Prop := ∀ M', nm_Fg 3 600 nm_cAll M M' → nm_C M' X → Q r M'
theorem nm_cF {f : nm_Rg} {M M' : am_M} (F : nm_Fr f M M') (h : nm_sb f nm_cAll = true) : nm_Fg 3 600 nm_cAll M M' := nm_Fg_sub F h (by decide) (by decide)
theorem nm_cR {M : am_M} : nm_Fg 3 600 nm_cAll M M := nm_Fg_sub (nm_Fg_refl nm_cAll M) (by decide +kernel) (by decide) (by decide)
theorem nm_cFF {n s : Int} {f : nm_Rg} {M M' M'' : am_M} (F : nm_Fg n s f M M') (F' : nm_Fr nm_Rf M' M'') (h : nm_sb f nm_cAll = true) (hn : n ≤ 3) (hs : s ≤ 600) : nm_Fg 3 600 nm_cAll M M'' := by
  have := nm_Fg_trans (nm_Fg_sub F h hn hs) (nm_Fr_sub F' (g := nm_cAll) (by decide +kernel))
  simpa only [Int.add_zero] using this
/-- refused, and nothing more -/
theorem nmp_ref {d k : Nat} {pc : Nat} {v : Int} {ls : List am_V} {X : nm_X} {M : am_M} {Q : List am_V → am_M → Prop} (hv : v = -1 ∨ v = -2 ∨ v = -3 ∨ v = -5 ∨ v = -6) (hC : nm_C M X) (hw : ∀ M', nm_Lay M' → Q [(0, v)] M' → am_WP d (am_cs k) pc ls [(0, v)] M' Q) (hQ : nm_KC (nx_rf X v) [(0, v)] M Q) : am_CL (d - 1) 43 [(2, 0), (0, v)] M (fun r M' => am_WP d (am_cs k) pc ls (r ++ []) M' Q) :=
  nmx_43 hv hC (fun M' F C => hw M' (nm_C_L C) (hQ M' (nm_cF F (by decide +kernel)) C))
def sp_12 (X : nm_X) : nm_X × Int := (X, nx_R X 7)
theorem nmp_12 {d : Nat} {X : nm_X} {M : am_M} {Q : List am_V → am_M → Prop} (hC : nm_C M X) (hQ : nm_KC (sp_12 X).1 [(0, (sp_12 X).2)] M Q) : am_CL d 12 [(2, 0)] M Q := by
  refine h_12_0 (nm_C_L hC) ?_
  rw [hC.2.2.2.2.2.2.2.2.2.2.1.2.2.2.2.2.2.1]; exact hQ M nm_cR hC
def sp_15 (X : nm_X) : nm_X × Int := (X, nx_R X 8)
theorem nmp_15 {d : Nat} {X : nm_X} {M : am_M} {Q : List am_V → am_M → Prop} (hC : nm_C M X) (hQ : nm_KC (sp_15 X).1 [(0, (sp_15 X).2)] M Q) : am_CL d 15 [(2, 0)] M Q := by
  refine h_15_0 (nm_C_L hC) ?_
  rw [hC.2.2.2.2.2.2.2.2.2.2.1.2.2.2.2.2.2.2.1]; exact hQ M nm_cR hC
def sp_16 (X : nm_X) : nm_X × Int := (X, nx_R X 9)
theorem nmp_16 {d : Nat} {X : nm_X} {M : am_M} {Q : List am_V → am_M → Prop} (hC : nm_C M X) (hQ : nm_KC (sp_16 X).1 [(0, (sp_16 X).2)] M Q) : am_CL d 16 [(2, 0)] M Q := by
  refine h_16_0 (nm_C_L hC) ?_
  rw [hC.2.2.2.2.2.2.2.2.2.2.1.2.2.2.2.2.2.2.2.1]; exact hQ M nm_cR hC
def sp_42 (X : nm_X) : nm_X × Int := (X, nx_R X 0)
theorem nmp_42 {d : Nat} {X : nm_X} {M : am_M} {Q : List am_V → am_M → Prop} (hC : nm_C M X) (hQ : nm_KC (sp_42 X).1 [(0, (sp_42 X).2)] M Q) : am_CL d 42 [(2, 0)] M Q := by
  refine h_42_0 (nm_C_L hC) ?_
  rw [hC.2.2.2.2.2.2.2.2.2.2.1.1]; exact hQ M nm_cR hC
/-- mirror -/
def sp_1 (X : nm_X) (v b s : Int) : nm_X × Int := if nm_pc v = 0 ∨ b < 0 ∨ 7 < b ∨ s < 1 ∨ 30 < s then (nx_rf X (-1), -1) else if 6 ≤ nx_S X 0 then (nx_rf X (-5), -5) else (nx_fn (ns_U (ns_W (ns_S X (nm_addS (nx_S X) v (nm_pc v) b)) ((nx_W X).1, (nx_W X).2.1, nm_up (nx_W X).2.2.1 (nx_S X 0) s, (nx_W X).2.2.2)) []), nx_S X 0)
theorem nm_pc_in {v : Int} : 0 ≤ nm_pc v ∧ nm_pc v ≤ 5 := by unfold nm_pc; repeat' split <;> omega
theorem nm_pc_dig {v : Int} (h : nm_pc v ≠ 0) : 0 < v ∧ (1 ≤ v % 10 ∧ v % 10 ≤ 8) ∧ (2 ≤ nm_pc v → 1 ≤ v / 10 % 10 ∧ v / 10 % 10 ≤ 8) ∧ (3 ≤ nm_pc v → 1 ≤ v / 100 % 10 ∧ v / 100 % 10 ≤ 8) ∧ (4 ≤ nm_pc v → 1 ≤ v / 1000 % 10 ∧ v / 1000 % 10 ≤ 8) ∧ (5 ≤ nm_pc v → 1 ≤ v / 10000 % 10 ∧ v / 10000 % 10 ≤ 8) := by
  unfold nm_pc at h ⊢
  repeat' split at h
  all_goals first
    | exact absurd rfl h
    | (simp only [*, if_true, if_false, if_neg, if_pos]; omega)
theorem nm_dg_cases {b j : Int} : ∀ {k : Nat} {v : Int} {S : Int → Int}, nm_dg b k v S j = S j ∨ ∃ i : Nat, i < k ∧ nm_dg b k v S j = v / 10 ^ i % 10 - 1
  | 0, _, _ => .inl rfl
  | k + 1, v, S => by
    show nm_dg b k (v / 10) (nm_up S (b + (k : Int)) (v % 10 - 1)) j = S j ∨ ∃ i : Nat, i < k + 1 ∧ nm_dg b k (v / 10) (nm_up S (b + (k : Int)) (v % 10 - 1)) j = v / 10 ^ i % 10 - 1
    rcases nm_dg_cases (b := b) (j := j) (k := k) (v := v / 10) (S := nm_up S (b + (k : Int)) (v % 10 - 1)) with e | ⟨i, hi, e⟩
    · rw [e]
      by_cases hj : j = b + (k : Int)
      · refine .inr ⟨0, by omega, ?_⟩
        rw [hj, nm_up_eq, Int.pow_zero, Int.ediv_one]
      · exact .inl (nm_up_ne hj)
    · refine .inr ⟨i + 1, by omega, ?_⟩
      rw [e, Int.pow_succ, Int.mul_comm, ← Int.ediv_ediv_of_nonneg (by decide)]
theorem nm_addS_lo {S : Int → Int} {v n b j : Int} (h0 : 0 ≤ S 0) (h6 : S 0 < 6) (hn : n ≤ 5) (h : (1 ≤ j ∧ j < 29) ∨ 77 ≤ j) : nm_addS S v n b j = S j := by
  unfold nm_addS
  rw [nm_up_ne (by omega), nm_up_ne (by omega), nm_up_ne (by omega), nm_up_ne (by omega), nm_dg_ne (by omega)]
theorem nm_addS_0 {S : Int → Int} {v n b : Int} : nm_addS S v n b 0 = S 0 + 1 := nm_up_eq _ _ _
theorem nm_okS_add {S : Int → Int} {v b : Int} (hO : nm_okS S) (h6 : S 0 < 6) (hp : nm_pc v ≠ 0) (hb : 0 ≤ b) (hb7 : b ≤ 7) : nm_okS (nm_addS S v (nm_pc v) b) := by
  obtain ⟨o0, o1, o2, o3, o5, o6, o7, o29, o35, o65, o71, o77, oh⟩ := hO
  have hpi := nm_pc_in (v := v)
  have lo : ∀ j, ((1 ≤ j ∧ j < 29) ∨ 77 ≤ j) → nm_addS S v (nm_pc v) b j = S j := fun j h => nm_addS_lo o0.1 h6 hpi.2 h
  have e0 := nm_addS_0 (S := S) (v := v) (n := nm_pc v) (b := b)
  refine ⟨by rw [e0]; omega, by rw [lo 1 (by omega)]; exact o1, by rw [lo 2 (by omega)]; exact o2, by rw [lo 3 (by omega), lo 2 (by omega)]; exact o3, by rw [lo 5 (by omega)]; exact o5, by rw [lo 6 (by omega)]; exact o6, by rw [lo 7 (by omega)]; exact o7, fun m a c => ?_, fun k a c => ?_, fun m a c => ?_, fun m a c => ?_, fun p a c => by rw [lo _ (by omega)]; exact o77 p a c, fun i a c => ?_⟩
  · rw [e0] at c
    unfold nm_addS
    rw [nm_up_ne (by omega), nm_up_ne (by omega), nm_up_ne (by omega)]
    by_cases hm : m = S 0
    · rw [hm, nm_up_eq]; omega
    · rw [nm_up_ne (by omega), nm_dg_ne (by omega)]; exact o29 m a (by omega)
  · unfold nm_addS
    rw [nm_up_ne (by omega), nm_up_ne (by omega), nm_up_ne (by omega), nm_up_ne (by omega)]
    rcases nm_dg_cases (b := 35 + 5 * S 0) (j := 35 + k) (k := (nm_pc v).toNat) (v := v) (S := S) with e | ⟨i, hi, e⟩
    · rw [e]; exact o35 k a c
    · rw [e]
      obtain ⟨d0, d1, d2, d3, d4, d5⟩ := nm_pc_dig hp
      have hi5 : i = 0 ∨ i = 1 ∨ i = 2 ∨ i = 3 ∨ i = 4 := by omega
      rcases hi5 with rfl | rfl | rfl | rfl | rfl
      · rw [Int.pow_zero, Int.ediv_one]; omega
      · have := d2 (by omega); simp only [Int.reducePow]; omega
      · have := d3 (by omega); simp only [Int.reducePow]; omega
      · have := d4 (by omega); simp only [Int.reducePow]; omega
      · have := d5 (by omega); simp only [Int.reducePow]; omega
  · unfold nm_addS
    rw [nm_up_ne (by omega), nm_up_ne (by omega)]
    by_cases hm : m = S 0
    · rw [hm, nm_up_eq]; omega
    · rw [nm_up_ne (by omega), nm_up_ne (by omega), nm_dg_ne (by omega)]; exact o65 m a c
  · unfold nm_addS
    rw [nm_up_ne (by omega)]
    by_cases hm : m = S 0
    · rw [hm, nm_up_eq]; omega
    · rw [nm_up_ne (by omega), nm_up_ne (by omega), nm_up_ne (by omega), nm_dg_ne (by omega)]; exact o71 m a c
  · rw [lo 1 (by omega)] at c
    rw [lo _ (by omega), lo _ (by omega), lo _ (by omega)]; exact oh i a c
theorem nm_CU_nil {M : am_M} (h : nm_CUp M 34) (h0 : am_gt M 34 0 = 0) : nm_CU M 34 [] := ⟨h, h0, by decide, fun k hk => absurd hk (by simp)⟩
theorem nmp_1 {d : Nat} {v b s : Int} {X : nm_X} {M : am_M} {Q : List am_V → am_M → Prop} (hd : 2 ≤ d) (hv : am_i32 v) (hC : nm_C M X) (hQ : nm_KC (sp_1 X v b s).1 [(0, (sp_1 X v b s).2)] M Q) : am_CL d 1 [(2, 0), (0, v), (0, b), (0, s)] M Q := by
  have hL := nm_C_L hC
  have hC0 := hC
  obtain ⟨c1, c2, c3, c4, c5, c6, c7, c8, c9, c10, c11, c12⟩ := hC
  obtain ⟨-, hS, hO, hX⟩ := c1
  have s0 := nm_s0 hS
  have o0 := hO.1
  have hpi := nm_pc_in (v := v)
  refine h_1_0 hL ⟨by omega, nmc_50 hL hv.2 ?_⟩
  have R1 : (nm_pc v = 0 ∨ b < 0 ∨ 7 < b ∨ s < 1 ∨ 30 < s) → 0 < d ∧ am_CL (d - 1) 43 [(2, 0), (0, (-1))] M (fun r M' => am_WP d am_c1 37 [(2, 0), (0, v), (0, b), (0, s), (0, nm_pc v), (9, 0)] (r ++ []) M' Q) := by
    intro h
    unfold sp_1 at hQ; rw [if_pos h] at hQ
    exact ⟨by omega, nmp_ref (k := 1) (by decide) hC0 (fun M' L q => h_1_37 L q) hQ⟩
  refine h_1_4 hL ⟨fun h => R1 (by omega), fun h1 => ⟨fun h => R1 (by omega), fun h2 => ⟨fun h => R1 (by omega), fun h3 => ⟨fun h => R1 (by omega), fun h4 => ⟨fun h5 => ⟨fun h6 => ⟨by omega, ?_⟩, fun h6 => ?_⟩, fun h => R1 (by omega)⟩⟩⟩⟩⟩
  · rw [s0] at h6 ⊢
    unfold sp_1 at hQ; rw [if_neg (by omega), if_neg (by omega)] at hQ
    obtain ⟨p0, -⟩ := nm_pc_dig h1
    refine nmc_115 hL hS c2 o0.1 h6 (by omega) hv.2 hpi.1 hpi.2 (fun M1 F1 S1 W1 => ?_)
    have hL1 := nm_Lay_fr hL F1 (by decide +kernel)
    refine h_1_78 hL1 ⟨by omega, ?_⟩
    have F2 : nm_Fr (nm_Sg 1 ++ nm_Wg 11 ++ [(34, 0, 1)]) M (am_st M1 34 0 0) := nm_Fr_st (nm_Fr_appl F1) (by decide +kernel)
    have F2' : nm_Fr [(34, 0, 1)] M1 (am_st M1 34 0 0) := nm_Fr_st (nm_Fg_refl _ _) (by decide)
    have hL2 := nm_Lay_fr hL1 F2' (by decide +kernel)
    have C2 : nm_C (am_st M1 34 0 0) (ns_U (ns_W (ns_S X (nm_addS (nx_S X) v (nm_pc v) b)) ((nx_W X).1, (nx_W X).2.1, nm_up (nx_W X).2.2.1 (nx_S X 0) s, (nx_W X).2.2.2)) []) :=
      ⟨⟨hL2, nm_CS_fr S1 hL1 (by decide) F2' (by decide +kernel), nm_okS_add hO h6 h1 (by omega) (by omega), nm_CX_fr (show nm_CX M 1 (nm_addS (nx_S X) v (nm_pc v) b) (nx_D X) from fun kq ka kb => hX kq ka (by have e : (nm_addS (nx_S X) v (nm_pc v) b) 2 = nx_S X 2 := (nm_addS_lo o0.1 h6 hpi.2 (by omega)); rw [e] at kb; exact kb)) (by decide) hL F2 (by decide +kernel) (by decide +kernel)⟩, nm_CW_fr W1 hL1 (by decide) F2' (by decide +kernel), nm_TX_fr c3 (by decide) hL F2 (by decide +kernel), nm_TX_fr c4 (by decide) hL F2 (by decide +kernel), nm_TX_fr c5 (by decide) hL F2 (by decide +kernel), ⟨(nm_gt_frn F2 hL (by decide) (by decide +kernel)).trans c6.1, fun k => nm_CI_fr (c6.2 k) hL (by decide) (by decide) F2 (by decide +kernel) (by decide +kernel) (by decide +kernel) (by decide +kernel)⟩, ⟨(nm_gt_frn F2 hL (by decide) (by decide +kernel)).trans c7.1, fun k => nm_CI_fr (c7.2 k) hL (by decide) (by decide) F2 (by decide +kernel) (by decide +kernel) (by decide +kernel) (by decide +kernel)⟩, nm_CU_nil (nm_CUp_fr c8.1 hL (by decide) F2 (by decide +kernel)) nm_st_eq, nm_CUp_fr c9 hL (by decide) F2 (by decide +kernel), nm_CP_fr c10 hL F2 (by decide +kernel) (by decide +kernel), nm_CR_fr c11 hL F2 (by decide +kernel), c12.imp id (fun e => nm_CW_fr e hL (by decide) F2 (by decide +kernel))⟩
    exact nmx_44 C2 (fun M3 F3 C3 => h_1_92 (nm_C_L C3) (hQ M3 (nm_cFF F2 F3 (by decide +kernel) (by decide) (by decide)) C3))
  · rw [s0] at h6
    unfold sp_1 at hQ; rw [if_neg (by omega), if_pos (by omega)] at hQ
    exact ⟨by omega, nmp_ref (k := 1) (by decide) hC0 (fun M' L q => h_1_56 L q) hQ⟩
/-- of -/
def sp_2 (X : nm_X) (m k : Int) : nm_X × Int := (X, if 0 ≤ m ∧ m < nx_S X 0 then (if k = 0 then nx_S X (29 + m) else if k = 1 then nx_S X (65 + m) else if k = 2 then (nx_W X).2.2.1 m else if k = 3 then nm_ix (nx_W X).2.1 m else if k = 4 then nm_wear (nx_S X) (nx_W X) (nm_lwf (nx_S X) (nx_D X)) m (nm_ix (nx_W X).2.1 m) else if 5 ≤ k ∧ k - 5 < nx_S X (29 + m) then nx_S X (35 + (5 * m + (k - 5))) else -1) else -1)
theorem nm_ix_in {l : List Int} {m : Int} (h : l.length ≤ 6) : -1 ≤ nm_ix l m ∧ nm_ix l m < 6 := by
  rcases nm_ix_cases l m with ⟨e, -⟩ | ⟨k, hk, -, e⟩ <;> omega
theorem nmp_2 {d : Nat} {m k : Int} {X : nm_X} {M : am_M} {Q : List am_V → am_M → Prop} (hd : 6 ≤ d) (hk : am_i32 k) (hC : nm_C M X) (hok : nm_ok X) (hQ : nm_KC (sp_2 X m k).1 [(0, (sp_2 X m k).2)] M Q) : am_CL d 2 [(2, 0), (0, m), (0, k)] M Q := by
  have hL := nm_C_L hC
  have hC0 := hC
  obtain ⟨c1, c2, c3, c4, c5, c6, c7, c8, c9, c10, c11, c12⟩ := hC
  have hA := c1
  obtain ⟨-, hS, hO, hX⟩ := c1
  have s0 := nm_s0 hS
  have o0 := hO.1
  have oW : nm_okW (nx_S X 0) (nx_W X) := hok.1.2.2.1
  have q := hQ M nm_cR hC0
  unfold sp_2 at hQ q
  simp only at hQ q
  refine h_2_0 hL ⟨by omega, nmc_46 hL (fun a0 a1 => ?_) (fun a0 => ?_)⟩
  · rw [s0] at a1
    rw [if_pos (by omega)] at hQ q
    have l := hO.2.2.2.2.2.2.2.1 m a0 a1
    refine h_2_5 hL ⟨fun _ => ⟨fun h0 => ⟨a0, by omega, ?_⟩, fun h0 => ⟨fun h1 => ⟨a0, by omega, ?_⟩, fun h1 => ⟨fun h2 => ⟨a0, by omega, ?_⟩, fun h2 => ⟨fun h3 => ⟨by omega, nmc_137 hL (by decide) c2 (h_2_88 hL ?_)⟩, fun h3 => ⟨fun h4 => ⟨by omega, nmc_137 hL (by decide) c2 (h_2_112 hL ⟨by omega, nmc_59 (by omega) hA (by decide) c2 oW a0 (by omega) ?_ (fun M1 F1 => h_2_115 (nm_Lay_fr hL F1 (by decide +kernel)) ?_)⟩)⟩, fun h4 => ⟨fun h5 => ?_, fun h5 => ⟨a0, by omega, ?_⟩⟩⟩⟩⟩⟩⟩, fun h => absurd h (by decide)⟩
    · rw [if_pos h0] at q; rw [nm_slong hS a0 (by omega)]; exact q
    · rw [if_neg h0, if_pos h1] at q; rw [nm_sbend hS a0 (by omega)]; exact q
    · rw [if_neg h0, if_neg h1, if_pos h2] at q; rw [show am_gt M 13 m = _ from c2.2.2.2.2.1 m a0 (by omega)]; exact q
    · rw [if_neg h0, if_neg h1, if_neg h2, if_pos h3] at q; exact q
    · have := nm_ix_in (m := m) c2.2.2.1; omega
    · rw [if_neg h0, if_neg h1, if_neg h2, if_neg h3, if_pos h4] at hQ
      exact hQ M1 (nm_cF F1 (by decide +kernel)) (nm_C_fr hC0 F1 (by decide +kernel))
    · rw [if_neg h0, if_neg h1, if_neg h2, if_neg h3, if_neg h4, if_neg (by omega)] at q; exact q
    · rw [if_neg h0, if_neg h1, if_neg h2, if_neg h3, if_neg h4] at q
      have := hk.2
      rw [nm_slong hS a0 (by omega), am_w_id (x := k - 5) (by omega) (by omega), am_w_id (x := m * 5) (by omega) (by omega)]
      refine ⟨fun h6 => ?_, fun h6 => ?_⟩
      · rw [if_neg (by omega)] at q; exact q
      · rw [if_pos (by omega)] at q
        rw [am_w_id (x := _ + _) (by omega) (by omega), nm_ssaw hS (by omega) (by omega), show m * 5 + (k - 5) = 5 * m + (k - 5) by omega]
        exact ⟨by omega, by omega, q⟩
  · rw [s0] at a0
    rw [if_neg (by omega)] at q
    exact h_2_5 hL ⟨fun h => absurd rfl h, fun _ => q⟩
/-- at -/
def sp_3 (X : nm_X) (p : Int) : nm_X × Int := (X, if 0 ≤ p ∧ p < ((nx_W X).2.1.length : Int) then (nx_W X).2.1.getD p.toNat 0 else -1)
theorem nmp_3 {d : Nat} {p : Int} {X : nm_X} {M : am_M} {Q : List am_V → am_M → Prop} (hC : nm_C M X) (hQ : nm_KC (sp_3 X p).1 [(0, (sp_3 X p).2)] M Q) : am_CL d 3 [(2, 0), (0, p)] M Q := by
  have hL := nm_C_L hC
  have q := hQ M nm_cR hC
  unfold sp_3 at q
  simp only at q
  obtain ⟨c1, c2, c3, c4, c5, c6, c7, c8, c9, c10, c11, c12⟩ := hC
  obtain ⟨w1, w2, w3, w4, w5, w6⟩ := c2
  refine h_3_0 hL ?_
  rw [w2]
  refine ⟨fun h => ?_, fun h => ⟨fun h1 => ?_, fun h1 => ⟨by omega, by omega, ?_⟩⟩⟩
  · rw [if_neg (by omega)] at q; exact q
  · rw [if_neg (by omega)] at q; exact q
  · rw [if_pos (by omega)] at q
    have := w4 p.toNat (by omega)
    rw [show ((p.toNat : Nat) : Int) = p by omega] at this
    rw [show am_gt M 12 p = _ from this]; exact q
/-- asks -/
def sp_4 (X : nm_X) (m p h w : Int) : nm_X × Int := (X, if (0 ≤ m ∧ m < nx_S X 0) ∧ (0 ≤ p ∧ p < 6) ∧ (1 ≤ h ∧ h ≤ 8) then (if w = 1 then (if nm_bar (nx_S X) (nx_W X) (nm_lwf (nx_S X) (nx_D X)) m p then 1 else 0) else if w = 0 ∧ p < h then nm_mk (nx_S X) (nx_W X) (nm_lwf (nx_S X) (nx_D X)) m p h else -1) else -1)
theorem nmp_4 {d : Nat} {m p h w : Int} {X : nm_X} {M : am_M} {Q : List am_V → am_M → Prop} (hd : 6 ≤ d) (hC : nm_C M X) (hok : nm_ok X) (hQ : nm_KC (sp_4 X m p h w).1 [(0, (sp_4 X m p h w).2)] M Q) : am_CL d 4 [(2, 0), (0, m), (0, p), (0, h), (0, w)] M Q := by
  have hL := nm_C_L hC
  have hC0 := hC
  obtain ⟨c1, c2, c3, c4, c5, c6, c7, c8, c9, c10, c11, c12⟩ := hC
  have hA := c1
  obtain ⟨-, hS, hO, hX⟩ := c1
  have s0 := nm_s0 hS
  have o0 := hO.1
  have oW : nm_okW (nx_S X 0) (nx_W X) := hok.1.2.2.1
  have q := hQ M nm_cR hC0
  unfold sp_4 at hQ q
  simp only at hQ q
  refine h_4_0 hL ⟨by omega, nmc_46 hL (fun a0 a1 => ?_) (fun a0 => ?_)⟩
  · rw [s0] at a1
    refine h_4_5 hL ⟨fun h => absurd h (by decide), fun _ => ⟨fun h1 => ?_, fun h1 => ⟨fun h2 => ?_, fun h2 => ⟨by omega, nmc_49 hL (fun b0 b1 => ?_) (fun b0 => ?_)⟩⟩⟩⟩
    · rw [if_neg (by omega)] at q; exact q
    · rw [if_neg (by omega)] at q; exact q
    · rw [if_pos (by omega)] at hQ q
      refine h_4_22 hL ⟨fun _ => ⟨fun w1 => ⟨fun w0 => ?_, fun w0 => ⟨fun ph => ⟨by omega, nmc_116 hL hS hO a0 a1 (by omega) ph b1 (h_4_80 hL ⟨by omega, nmc_123 (by omega) hL hS hO hX (fun t ht => h_4_100 hL ⟨by omega, nmc_58 (by omega) hA (by decide) c2 oW ht a0 (by omega) (by omega) (by omega) (nm_seen_in hO a0 a1 ph) (fun M1 F1 => h_4_108 (nm_Lay_fr hL F1 (by decide +kernel)) ?_)⟩)⟩)⟩, fun ph => ?_⟩⟩, fun w1 => ⟨by omega, nmc_61 (by omega) hA (by decide) c2 oW a0 (by omega) (by omega) (fun M1 F1 => ?_)⟩⟩, fun h => absurd h (by decide)⟩
      · rw [if_neg w1, if_neg (by omega)] at q; exact q
      · rw [if_neg w1, if_pos (by omega)] at hQ
        exact hQ M1 (nm_cF F1 (by decide +kernel)) (nm_C_fr hC0 F1 (by decide +kernel))
      · rw [if_neg w1, if_neg (by omega)] at q; exact q
      · rw [if_pos (by omega)] at hQ
        have := hQ M1 (nm_cF F1 (by decide +kernel)) (nm_C_fr hC0 F1 (by decide +kernel))
        have hL1 := nm_Lay_fr hL F1 (by decide +kernel)
        cases hb : nm_bar (nx_S X) (nx_W X) (nm_lwf (nx_S X) (nx_D X)) m p
        · rw [hb] at this; exact h_4_49 hL1 ⟨fun _ => this, fun h => absurd rfl h⟩
        · rw [hb] at this; exact h_4_49 hL1 ⟨fun h => absurd h (by decide), fun _ => this⟩
    · rw [if_neg (by omega)] at q
      exact h_4_22 hL ⟨fun h => absurd rfl h, fun _ => q⟩
  · rw [s0] at a0
    rw [if_neg (by omega)] at q
    exact h_4_5 hL ⟨fun _ => q, fun h => absurd rfl h⟩
/-- crack -/
def sp_5 (X : nm_X) (x y b : Int) : nm_X × Int := if x = y ∨ b < 0 ∨ 1 < b then (nx_rf X (-1), -1) else if x < 0 ∨ nx_S X 0 ≤ x ∨ y < 0 ∨ nx_S X 0 ≤ y then (nx_rf X (-2), -2) else (nx_fn (ns_S X (nm_crS (nx_S X) x y b)), nm_bit (nx_S X (71 + x)) y)
theorem nm_setb_in {c k b : Int} (hc : 0 ≤ c) (hc2 : c ≤ 63) (hk : 0 ≤ k) (hk2 : k < 6) (hb : 0 ≤ b) (hb2 : b ≤ 1) : 0 ≤ nm_setb c k b ∧ nm_setb c k b ≤ 63 := by
  obtain ⟨n, hn, rfl⟩ := nm_nat (n := 64) hc (by omega)
  obtain ⟨j, hj, rfl⟩ := nm_nat (n := 6) hk hk2
  obtain ⟨i, hi, rfl⟩ := nm_nat (n := 2) hb (by omega)
  have : ∀ c, c < 64 → ∀ k, k < 6 → ∀ b, b < 2 → 0 ≤ nm_setb ((c : Nat) : Int) ((k : Nat) : Int) ((b : Nat) : Int) ∧ nm_setb (c : Int) (k : Int) (b : Int) ≤ 63 := by decide +kernel
  exact this n hn j hj i hi
theorem nm_okS_cr {S : Int → Int} {x y b : Int} (hO : nm_okS S) (hx : 0 ≤ x) (hx6 : x < 6) (hy : 0 ≤ y) (hy6 : y < 6) (hb : 0 ≤ b) (hb2 : b ≤ 1) : nm_okS (nm_crS S x y b) := by
  obtain ⟨o0, o1, o2, o3, o5, o6, o7, o29, o35, o65, o71, o77, oh⟩ := hO
  have lo : ∀ j, (j < 71 ∨ 77 ≤ j) → nm_crS S x y b j = S j := fun j h => by unfold nm_crS; rw [nm_up_ne (by omega), nm_up_ne (by omega)]
  refine ⟨by rw [lo 0 (by omega)]; exact o0, by rw [lo 1 (by omega)]; exact o1, by rw [lo 2 (by omega)]; exact o2, by rw [lo 3 (by omega), lo 2 (by omega)]; exact o3, by rw [lo 5 (by omega)]; exact o5, by rw [lo 6 (by omega)]; exact o6, by rw [lo 7 (by omega)]; exact o7, fun m a c => ?_, fun k a c => by rw [lo _ (by omega)]; exact o35 k a c, fun m a c => by rw [lo _ (by omega)]; exact o65 m a c, fun m a c => ?_, fun p a c => by rw [lo _ (by omega)]; exact o77 p a c, fun i a c => ?_⟩
  · rw [lo 0 (by omega)] at c; rw [lo _ (by omega)]; exact o29 m a c
  · unfold nm_crS
    by_cases h1 : m = y
    · rw [h1, nm_up_eq]; exact nm_setb_in (o71 y hy hy6).1 (o71 y hy hy6).2 hx hx6 hb hb2
    · rw [nm_up_ne (by omega)]
      by_cases h2 : m = x
      · rw [h2, nm_up_eq]; exact nm_setb_in (o71 x hx hx6).1 (o71 x hx hx6).2 hy hy6 hb hb2
      · rw [nm_up_ne (by omega)]; exact o71 m a c
  · rw [lo 1 (by omega)] at c; rw [lo _ (by omega), lo _ (by omega), lo _ (by omega)]; exact oh i a c
theorem nmp_5 {d : Nat} {x y b : Int} {X : nm_X} {M : am_M} {Q : List am_V → am_M → Prop} (hd : 2 ≤ d) (hC : nm_C M X) (hQ : nm_KC (sp_5 X x y b).1 [(0, (sp_5 X x y b).2)] M Q) : am_CL d 5 [(2, 0), (0, x), (0, y), (0, b)] M Q := by
  have hL := nm_C_L hC
  have hC0 := hC
  obtain ⟨c1, c2, c3, c4, c5, c6, c7, c8, c9, c10, c11, c12⟩ := hC
  obtain ⟨-, hS, hO, hX⟩ := c1
  have s0 := nm_s0 hS
  have o0 := hO.1
  have R1 : (x = y ∨ b < 0 ∨ 1 < b) → 0 < d ∧ am_CL (d - 1) 43 [(2, 0), (0, (-1))] M (fun r M' => am_WP d am_c5 19 [(2, 0), (0, x), (0, y), (0, b), (9, 0)] (r ++ []) M' Q) := by
    intro h
    unfold sp_5 at hQ; rw [if_pos h] at hQ
    exact ⟨by omega, nmp_ref (k := 5) (by decide) hC0 (fun M' L q => h_5_19 L q) hQ⟩
  refine h_5_0 hL ⟨fun h => R1 (.inl h), fun h1 => ⟨fun h => R1 (by omega), fun h2 => ⟨fun h3 => ⟨by omega, ?_⟩, fun h => R1 (by omega)⟩⟩⟩
  unfold sp_5 at hQ
  rw [if_neg (by omega)] at hQ
  have R2 : (x < 0 ∨ nx_S X 0 ≤ x ∨ y < 0 ∨ nx_S X 0 ≤ y) → 0 < d ∧ am_CL (d - 1) 43 [(2, 0), (0, (-2))] M (fun r M' => am_WP d am_c5 42 [(2, 0), (0, x), (0, y), (0, b), (9, 0)] (r ++ []) M' Q) := by
    intro h
    rw [if_pos h] at hQ
    exact ⟨by omega, nmp_ref (k := 5) (by decide) hC0 (fun M' L q => h_5_42 L q) hQ⟩
  refine nmc_46 hL (fun a0 a1 => ?_) (fun a0 => ?_)
  · rw [s0] at a1
    refine h_5_25 hL ⟨fun h => absurd h (by decide), fun _ => ⟨by omega, nmc_46 hL (fun b0 b1 => ?_) (fun b0 => ?_)⟩⟩
    · rw [s0] at b1
      refine h_5_33 hL ⟨fun _ => ⟨a0, by omega, by omega, ?_⟩, fun h => absurd h (by decide)⟩
      rw [nm_scrack hS a0 (by omega)]
      have oc := hO.2.2.2.2.2.2.2.2.2.2.1
      rw [nm_bit_and (oc x a0 (by omega)).1 (oc x a0 (by omega)).2 b0 (by omega)]
      refine nmc_118 hL hS hO a0 (by omega) b0 (by omega) h1 (by omega) (by omega) (fun M1 F1 S1 => ?_)
      have hL1 := nm_Lay_fr hL F1 (by decide +kernel)
      rw [if_neg (by omega)] at hQ
      have C1 : nm_C M1 (ns_S X (nm_crS (nx_S X) x y b)) := ⟨⟨hL1, S1, nm_okS_cr hO a0 (by omega) b0 (by omega) (by omega) (by omega), nm_CX_fr (show nm_CX M 1 (nm_crS (nx_S X) x y b) (nx_D X) from fun kq ka kb => hX kq ka (by have e : (nm_crS (nx_S X) x y b) 2 = nx_S X 2 := (by unfold nm_crS; rw [nm_up_ne (by omega), nm_up_ne (by omega)]); rw [e] at kb; exact kb)) (by decide) hL F1 (by decide +kernel) (by decide +kernel)⟩, nm_CW_fr c2 hL (by decide) F1 (by decide +kernel), nm_TX_fr c3 (by decide) hL F1 (by decide +kernel), nm_TX_fr c4 (by decide) hL F1 (by decide +kernel), nm_TX_fr c5 (by decide) hL F1 (by decide +kernel), ⟨(nm_gt_frn F1 hL (by decide) (by decide +kernel)).trans c6.1, fun k => nm_CI_fr (c6.2 k) hL (by decide) (by decide) F1 (by decide +kernel) (by decide +kernel) (by decide +kernel) (by decide +kernel)⟩, ⟨(nm_gt_frn F1 hL (by decide) (by decide +kernel)).trans c7.1, fun k => nm_CI_fr (c7.2 k) hL (by decide) (by decide) F1 (by decide +kernel) (by decide +kernel) (by decide +kernel) (by decide +kernel)⟩, nm_CU_fr (.inl rfl) c8 hL F1 (by decide +kernel), nm_CUp_fr c9 hL (by decide) F1 (by decide +kernel), nm_CP_fr c10 hL F1 (by decide +kernel) (by decide +kernel), nm_CR_fr c11 hL F1 (by decide +kernel), c12.imp id (fun e => nm_CW_fr e hL (by decide) F1 (by decide +kernel))⟩
      refine h_5_68 hL1 ⟨by omega, nmx_44 C1 (fun M3 F3 C3 => h_5_74 (nm_C_L C3) (hQ M3 (nm_cFF F1 F3 (by decide +kernel) (by decide) (by decide)) C3))⟩
    · rw [s0] at b0
      exact h_5_33 hL ⟨fun h => absurd rfl h, fun _ => R2 (by omega)⟩
  · rw [s0] at a0
    exact h_5_25 hL ⟨fun _ => R2 (by omega), fun h => absurd rfl h⟩
/-- part -/
def sp_6 (X : nm_X) (p k : Int) : nm_X × Int := (X, if 0 ≤ p ∧ p < 8 then (if k = 0 then (nx_W X).2.2.2 p else if k = 1 then nx_S X (77 + p) else if k = 2 then nm_pay (nx_S X) (nx_W X) (nm_lwf (nx_S X) (nx_D X)) p else -1) else -1)
theorem nmp_6 {d : Nat} {p k : Int} {X : nm_X} {M : am_M} {Q : List am_V → am_M → Prop} (hd : 6 ≤ d) (hC : nm_C M X) (hok : nm_ok X) (hQ : nm_KC (sp_6 X p k).1 [(0, (sp_6 X p k).2)] M Q) : am_CL d 6 [(2, 0), (0, p), (0, k)] M Q := by
  have hL := nm_C_L hC
  have hC0 := hC
  obtain ⟨c1, c2, c3, c4, c5, c6, c7, c8, c9, c10, c11, c12⟩ := hC
  have hA := c1
  obtain ⟨-, hS, hO, hX⟩ := c1
  have oW : nm_okW (nx_S X 0) (nx_W X) := hok.1.2.2.1
  have q := hQ M nm_cR hC0
  unfold sp_6 at hQ q
  simp only at hQ q
  refine h_6_0 hL ⟨by omega, nmc_48 hL (fun a0 a1 => ?_) (fun a0 => ?_)⟩
  · rw [if_pos ⟨a0, a1⟩] at hQ q
    refine h_6_4 hL ⟨fun _ => ⟨fun h0 => ⟨a0, a1, ?_⟩, fun h0 => ⟨fun h1 => ⟨a0, a1, ?_⟩, fun h1 => ⟨fun h2 => ⟨by omega, nmc_123 (by omega) hL hS hO hX (fun t ht => h_6_77 hL ⟨by omega, nmc_60 (by omega) hA (by decide) c2 oW ht (by omega) (fun M1 F1 => h_6_81 (nm_Lay_fr hL F1 (by decide +kernel)) ?_)⟩)⟩, fun h2 => ?_⟩⟩⟩, fun h => absurd h (by decide)⟩
    · rw [if_pos h0] at q; rw [show am_gt M 14 p = _ from c2.2.2.2.2.2 p a0 a1]; exact q
    · rw [if_neg h0, if_pos h1] at q; rw [nm_sclock hS a0 a1]; exact q
    · rw [if_neg h0, if_neg h1, if_pos h2] at hQ
      exact hQ M1 (nm_cF F1 (by decide +kernel)) (nm_C_fr hC0 F1 (by decide +kernel))
    · rw [if_neg h0, if_neg h1, if_neg h2] at q; exact q
  · rw [if_neg (by omega)] at q
    exact h_6_4 hL ⟨fun h => absurd rfl h, fun _ => q⟩
/-- clock -/
def sp_7 (X : nm_X) (p n : Int) : nm_X × Int := if p < 0 ∨ 8 ≤ p ∨ n < 0 ∨ 3 < n then (nx_rf X (-1), -1) else (nx_fn (ns_S X (nm_up (nx_S X) (77 + p) n)), nx_S X (77 + p))
theorem nm_okS_up {S : Int → Int} {j v : Int} (hO : nm_okS S) (h0 : j = 1 → v = 0) (h1 : j = 3 → -1 ≤ v ∧ v < S 2) (h2 : j = 5 → 0 ≤ v ∧ v ≤ 10) (h3 : j = 6 → 0 ≤ v ∧ v ≤ 9) (h4 : j = 7 → 1 ≤ v ∧ v ≤ 8) (h5 : 77 ≤ j → j < 85 → 0 ≤ v ∧ v ≤ 3) (h6 : j = 1 ∨ j = 3 ∨ (5 ≤ j ∧ j ≤ 7) ∨ (77 ≤ j ∧ j < 85)) : nm_okS (nm_up S j v) := by
  obtain ⟨o0, o1, o2, o3, o5, o6, o7, o29, o35, o65, o71, o77, oh⟩ := hO
  have e0 : nm_up S j v 0 = S 0 := nm_up_ne (by omega)
  have e2 : nm_up S j v 2 = S 2 := nm_up_ne (by omega)
  refine ⟨by rw [e0]; exact o0, ?_, by rw [e2]; exact o2, ?_, ?_, ?_, ?_, fun m a c => ?_, fun k a c => by rw [nm_up_ne (by omega)]; exact o35 k a c, fun m a c => by rw [nm_up_ne (by omega)]; exact o65 m a c, fun m a c => by rw [nm_up_ne (by omega)]; exact o71 m a c, fun p a c => ?_, fun i a c => ?_⟩
  · by_cases h : j = 1
    · subst h; rw [nm_up_eq]; have := h0 rfl; omega
    · rw [nm_up_ne (by omega)]; exact o1
  · rw [e2]
    by_cases h : j = 3
    · subst h; rw [nm_up_eq]; exact h1 rfl
    · rw [nm_up_ne (by omega)]; exact o3
  · by_cases h : j = 5
    · subst h; rw [nm_up_eq]; exact h2 rfl
    · rw [nm_up_ne (by omega)]; exact o5
  · by_cases h : j = 6
    · subst h; rw [nm_up_eq]; exact h3 rfl
    · rw [nm_up_ne (by omega)]; exact o6
  · by_cases h : j = 7
    · subst h; rw [nm_up_eq]; exact h4 rfl
    · rw [nm_up_ne (by omega)]; exact o7
  · rw [e0] at c; rw [nm_up_ne (by omega)]; exact o29 m a c
  · by_cases h : j = 77 + p
    · subst h; rw [nm_up_eq]; exact h5 (by omega) (by omega)
    · rw [nm_up_ne (by omega)]; exact o77 p a c
  · have hi : i < S 1 := by
      by_cases h : j = 1
      · subst h; rw [nm_up_eq] at c; have := h0 rfl; omega
      · rw [nm_up_ne (by omega)] at c; exact c
    rw [nm_up_ne (by omega), nm_up_ne (by omega), nm_up_ne (by omega)]; exact oh i a hi
theorem nmp_7 {d : Nat} {p n : Int} {X : nm_X} {M : am_M} {Q : List am_V → am_M → Prop} (hd : 2 ≤ d) (hC : nm_C M X) (hQ : nm_KC (sp_7 X p n).1 [(0, (sp_7 X p n).2)] M Q) : am_CL d 7 [(2, 0), (0, p), (0, n)] M Q := by
  have hL := nm_C_L hC
  have hC0 := hC
  obtain ⟨c1, c2, c3, c4, c5, c6, c7, c8, c9, c10, c11, c12⟩ := hC
  obtain ⟨-, hS, hO, hX⟩ := c1
  have R1 : (p < 0 ∨ 8 ≤ p ∨ n < 0 ∨ 3 < n) → 0 < d ∧ am_CL (d - 1) 43 [(2, 0), (0, (-1))] M (fun r M' => am_WP d am_c7 21 [(2, 0), (0, p), (0, n), (9, 0)] (r ++ []) M' Q) := by
    intro h
    unfold sp_7 at hQ; rw [if_pos h] at hQ
    exact ⟨by omega, nmp_ref (k := 7) (by decide) hC0 (fun M' L q => h_7_21 L q) hQ⟩
  refine h_7_0 hL ⟨by omega, nmc_48 hL (fun a0 a1 => ?_) (fun a0 => h_7_4 hL ⟨fun _ => R1 (by omega), fun h => absurd rfl h⟩)⟩
  refine h_7_4 hL ⟨fun h => absurd h (by decide), fun _ => ⟨fun h => R1 (by omega), fun h1 => ⟨fun h2 => ⟨a0, a1, by omega, ?_⟩, fun h => R1 (by omega)⟩⟩⟩
  unfold sp_7 at hQ; rw [if_neg (by omega)] at hQ
  rw [nm_sclock hS a0 a1]
  have F1 : nm_Fr [(6, 0, 8)] M (am_st M 6 p n) := nm_Fr_st (nm_Fg_refl _ _) (nm_in_c (lo := 0) (hi := 8) (by decide) a0 a1)
  have S1 : nm_CS (am_st M 6 p n) 1 (nm_up (nx_S X) (77 + p) n) := nm_CS_up hS (nm_cE (by omega))
  have hL1 := nm_Lay_fr hL F1 (by decide +kernel)
  have C1 : nm_C (am_st M 6 p n) (ns_S X (nm_up (nx_S X) (77 + p) n)) := ⟨⟨hL1, S1, nm_okS_up hO (by omega) (by omega) (by omega) (by omega) (by omega) (by omega) (by omega), nm_CX_fr (show nm_CX M 1 (nm_up (nx_S X) (77 + p) n) (nx_D X) from fun kq ka kb => hX kq ka (by have e : (nm_up (nx_S X) (77 + p) n) 2 = nx_S X 2 := (nm_up_ne (by omega)); rw [e] at kb; exact kb)) (by decide) hL F1 (by decide +kernel) (by decide +kernel)⟩, nm_CW_fr c2 hL (by decide) F1 (by decide +kernel), nm_TX_fr c3 (by decide) hL F1 (by decide +kernel), nm_TX_fr c4 (by decide) hL F1 (by decide +kernel), nm_TX_fr c5 (by decide) hL F1 (by decide +kernel), ⟨(nm_gt_frn F1 hL (by decide) (by decide +kernel)).trans c6.1, fun k => nm_CI_fr (c6.2 k) hL (by decide) (by decide) F1 (by decide +kernel) (by decide +kernel) (by decide +kernel) (by decide +kernel)⟩, ⟨(nm_gt_frn F1 hL (by decide) (by decide +kernel)).trans c7.1, fun k => nm_CI_fr (c7.2 k) hL (by decide) (by decide) F1 (by decide +kernel) (by decide +kernel) (by decide +kernel) (by decide +kernel)⟩, nm_CU_fr (.inl rfl) c8 hL F1 (by decide +kernel), nm_CUp_fr c9 hL (by decide) F1 (by decide +kernel), nm_CP_fr c10 hL F1 (by decide +kernel) (by decide +kernel), nm_CR_fr c11 hL F1 (by decide +kernel), c12.imp id (fun e => nm_CW_fr e hL (by decide) F1 (by decide +kernel))⟩
  exact nmx_44 C1 (fun M3 F3 C3 => h_7_47 (nm_C_L C3) (hQ M3 (nm_cFF F1 F3 (by decide +kernel) (by decide) (by decide)) C3))
/-- end -/
def sp_10 (X : nm_X) (n : Int) : nm_X × Int := if n < 0 ∨ nx_L X < n then (X, -1) else (ns_L X n, n)
theorem nmp_10 {d : Nat} {n : Int} {X : nm_X} {M : am_M} {Q : List am_V → am_M → Prop} (hC : nm_C M X) (hQ : nm_KC (sp_10 X n).1 [(0, (sp_10 X n).2)] M Q) : am_CL d 10 [(2, 0), (0, n)] M Q := by
  have hL := nm_C_L hC
  have hC0 := hC
  obtain ⟨c1, c2, c3, c4, c5, c6, c7, c8, c9, c10, c11, c12⟩ := hC
  unfold sp_10 at hQ
  refine h_10_0 hL ?_
  rw [c10.1]
  refine ⟨fun h => ?_, fun h => ⟨fun h1 => ?_, fun h1 => ?_⟩⟩
  · rw [if_pos (by omega)] at hQ; exact hQ M nm_cR hC0
  · rw [if_neg (by omega)] at hQ
    have F1 : nm_Fr [(30, 1, 2)] M (am_st M 30 1 n) := nm_Fr_st (nm_Fg_refl _ _) (by decide)
    have C1 : nm_C (am_st M 30 1 n) (ns_L X n) := ⟨nm_CA_fr c1 F1 (by decide +kernel) (by decide +kernel) (by decide +kernel) (by decide +kernel), nm_CW_fr c2 hL (by decide) F1 (by decide +kernel), nm_TX_fr c3 (by decide) hL F1 (by decide +kernel), nm_TX_fr c4 (by decide) hL F1 (by decide +kernel), nm_TX_fr c5 (by decide) hL F1 (by decide +kernel), ⟨(nm_gt_frn F1 hL (by decide) (by decide +kernel)).trans c6.1, fun k => nm_CI_fr (c6.2 k) hL (by decide) (by decide) F1 (by decide +kernel) (by decide +kernel) (by decide +kernel) (by decide +kernel)⟩, ⟨(nm_gt_frn F1 hL (by decide) (by decide +kernel)).trans c7.1, fun k => nm_CI_fr (c7.2 k) hL (by decide) (by decide) F1 (by decide +kernel) (by decide +kernel) (by decide +kernel) (by decide +kernel)⟩, nm_CU_fr (.inl rfl) c8 hL F1 (by decide +kernel), nm_CUp_fr c9 hL (by decide) F1 (by decide +kernel), ⟨nm_st_eq, fun i a b => (nm_st_ne (by decide)).trans (c10.2 i a (by have b1 : i < n := b; show i < nx_L X; omega))⟩, nm_CR_fr c11 hL F1 (by decide +kernel), c12.imp id (fun e => nm_CW_fr e hL (by decide) F1 (by decide +kernel))⟩
    exact hQ _ (nm_cF F1 (by decide +kernel)) C1
  · rw [if_pos (by omega)] at hQ; exact hQ M nm_cR hC0
/-- force -/
def sp_17 (X : nm_X) (l : Int) : nm_X × Int := if l = -1 ∨ (0 ≤ l ∧ l < nx_S X 2) then (nx_fn (ns_S X (nm_up (nx_S X) 3 l)), nx_S X 3) else (nx_rf X (-2), -2)
theorem nmp_17 {d : Nat} {l : Int} {X : nm_X} {M : am_M} {Q : List am_V → am_M → Prop} (hd : 2 ≤ d) (hC : nm_C M X) (hQ : nm_KC (sp_17 X l).1 [(0, (sp_17 X l).2)] M Q) : am_CL d 17 [(2, 0), (0, l)] M Q := by
  have hL := nm_C_L hC
  have hC0 := hC
  obtain ⟨c1, c2, c3, c4, c5, c6, c7, c8, c9, c10, c11, c12⟩ := hC
  obtain ⟨-, hS, hO, hX⟩ := c1
  have s2 := nm_s2 hS
  have o2 := hO.2.2.1
  unfold sp_17 at hQ
  have R1 : (l = -1 ∨ (0 ≤ l ∧ l < nx_S X 2)) → 0 < d ∧ am_CL (d - 1) 44 [(2, 0), (0, am_gt M 1 15)] (am_st M 1 15 l) (fun r M' => am_WP d am_c17 41 [(2, 0), (0, l), (0, am_gt M 1 15)] (r ++ []) M' Q) := by
    intro h
    rw [if_pos h] at hQ
    rw [nm_s3 hS]
    have F1 : nm_Fr [(1, 15, 16)] M (am_st M 1 15 l) := nm_Fr_st (nm_Fg_refl _ _) (by decide)
    have S1 : nm_CS (am_st M 1 15 l) 1 (nm_up (nx_S X) 3 l) := nm_CS_up hS nm_c3
    have C1 : nm_C (am_st M 1 15 l) (ns_S X (nm_up (nx_S X) 3 l)) := ⟨⟨nm_Lay_fr hL F1 (by decide +kernel), S1, nm_okS_up hO (by omega) (by omega) (by omega) (by omega) (by omega) (by omega) (by omega), nm_CX_fr (show nm_CX M 1 (nm_up (nx_S X) 3 l) (nx_D X) from fun kq ka kb => hX kq ka (by have e : (nm_up (nx_S X) 3 l) 2 = nx_S X 2 := (nm_up_ne (by omega)); rw [e] at kb; exact kb)) (by decide) hL F1 (by decide +kernel) (by decide +kernel)⟩, nm_CW_fr c2 hL (by decide) F1 (by decide +kernel), nm_TX_fr c3 (by decide) hL F1 (by decide +kernel), nm_TX_fr c4 (by decide) hL F1 (by decide +kernel), nm_TX_fr c5 (by decide) hL F1 (by decide +kernel), ⟨(nm_gt_frn F1 hL (by decide) (by decide +kernel)).trans c6.1, fun k => nm_CI_fr (c6.2 k) hL (by decide) (by decide) F1 (by decide +kernel) (by decide +kernel) (by decide +kernel) (by decide +kernel)⟩, ⟨(nm_gt_frn F1 hL (by decide) (by decide +kernel)).trans c7.1, fun k => nm_CI_fr (c7.2 k) hL (by decide) (by decide) F1 (by decide +kernel) (by decide +kernel) (by decide +kernel) (by decide +kernel)⟩, nm_CU_fr (.inl rfl) c8 hL F1 (by decide +kernel), nm_CUp_fr c9 hL (by decide) F1 (by decide +kernel), nm_CP_fr c10 hL F1 (by decide +kernel) (by decide +kernel), nm_CR_fr c11 hL F1 (by decide +kernel), c12.imp id (fun e => nm_CW_fr e hL (by decide) F1 (by decide +kernel))⟩
    exact ⟨by omega, nmx_44 C1 (fun M3 F3 C3 => h_17_41 (nm_C_L C3) (hQ M3 (nm_cFF F1 F3 (by decide +kernel) (by decide) (by decide)) C3))⟩
  refine h_17_0 hL ⟨fun h => R1 (.inl h), fun h => ⟨by omega, nmc_47 hL (fun a0 a1 => h_17_10 hL ⟨fun _ => R1 (by omega), fun h => absurd h (by decide)⟩) (fun a0 => h_17_10 hL ⟨fun h => absurd rfl h, fun _ => ?_⟩)⟩⟩
  rw [if_neg (by omega)] at hQ
  exact ⟨by omega, nmp_ref (k := 17) (by decide) hC0 (fun M' L q => h_17_19 L q) hQ⟩
/-- hear -/
def nm_hrS (S : Int → Int) (x y z : Int) : Int → Int := nm_up (nm_up (nm_up (nm_up S (85 + 3 * S 1) x) (86 + 3 * S 1) y) (87 + 3 * S 1) z) 1 (S 1 + 1)
def sp_26 (X : nm_X) (h p m : Int) : nm_X × Int := if h < 1 ∨ 8 < h ∨ p < 0 ∨ 8 ≤ p ∨ m < 0 ∨ 1 < m then (nx_rf X (-1), -1) else if 8 ≤ nx_S X 1 then (nx_rf X (-5), -5) else (nx_fn (ns_S X (nm_hrS (nx_S X) h p m)), nx_S X 1 + 1)
theorem nm_okS_hr {S : Int → Int} {h p m : Int} (hO : nm_okS S) (h8 : S 1 < 8) (a : 1 ≤ h ∧ h ≤ 8) (b : 0 ≤ p ∧ p ≤ 7) (c : 0 ≤ m ∧ m ≤ 1) : nm_okS (nm_hrS S h p m) := by
  obtain ⟨o0, o1, o2, o3, o5, o6, o7, o29, o35, o65, o71, o77, oh⟩ := hO
  have lo : ∀ j, (j < 85 ∧ j ≠ 1) → nm_hrS S h p m j = S j := fun j h => by unfold nm_hrS; rw [nm_up_ne (by omega), nm_up_ne (by omega), nm_up_ne (by omega), nm_up_ne (by omega)]
  have e1 : nm_hrS S h p m 1 = S 1 + 1 := nm_up_eq _ _ _
  refine ⟨by rw [lo 0 (by omega)]; exact o0, by rw [e1]; omega, by rw [lo 2 (by omega)]; exact o2, by rw [lo 3 (by omega), lo 2 (by omega)]; exact o3, by rw [lo 5 (by omega)]; exact o5, by rw [lo 6 (by omega)]; exact o6, by rw [lo 7 (by omega)]; exact o7, fun m a c => ?_, fun k a c => by rw [lo _ (by omega)]; exact o35 k a c, fun m a c => by rw [lo _ (by omega)]; exact o65 m a c, fun m a c => by rw [lo _ (by omega)]; exact o71 m a c, fun p a c => by rw [lo _ (by omega)]; exact o77 p a c, fun i x y => ?_⟩
  · rw [lo 0 (by omega)] at c; rw [lo _ (by omega)]; exact o29 m a c
  · rw [e1] at y
    unfold nm_hrS
    by_cases hi : i = S 1
    · rw [hi, nm_up_ne (by omega), nm_up_ne (by omega), nm_up_ne (by omega), nm_up_eq, nm_up_ne (by omega), nm_up_ne (by omega), nm_up_eq, nm_up_ne (by omega), nm_up_eq]
      exact ⟨a, b, c⟩
    · rw [nm_up_ne (by omega), nm_up_ne (by omega), nm_up_ne (by omega), nm_up_ne (by omega), nm_up_ne (by omega), nm_up_ne (by omega), nm_up_ne (by omega), nm_up_ne (by omega), nm_up_ne (by omega), nm_up_ne (by omega), nm_up_ne (by omega), nm_up_ne (by omega)]
      exact oh i x (by omega)
theorem nmp_26 {d : Nat} {h p m : Int} {X : nm_X} {M : am_M} {Q : List am_V → am_M → Prop} (hd : 2 ≤ d) (hC : nm_C M X) (hQ : nm_KC (sp_26 X h p m).1 [(0, (sp_26 X h p m).2)] M Q) : am_CL d 26 [(2, 0), (0, h), (0, p), (0, m)] M Q := by
  have hL := nm_C_L hC
  have hC0 := hC
  obtain ⟨c1, c2, c3, c4, c5, c6, c7, c8, c9, c10, c11, c12⟩ := hC
  obtain ⟨-, hS, hO, hX⟩ := c1
  have s1 := nm_s1 hS
  have o1 := hO.2.1
  have R1 : (h < 1 ∨ 8 < h ∨ p < 0 ∨ 8 ≤ p ∨ m < 0 ∨ 1 < m) → 0 < d ∧ am_CL (d - 1) 43 [(2, 0), (0, (-1))] M (fun r M' => am_WP d am_c26 28 [(2, 0), (0, h), (0, p), (0, m)] (r ++ []) M' Q) := by
    intro h
    unfold sp_26 at hQ; rw [if_pos h] at hQ
    exact ⟨by omega, nmp_ref (k := 26) (by decide) hC0 (fun M' L q => h_26_28 L q) hQ⟩
  refine h_26_0 hL ⟨by omega, nmc_49 hL (fun a0 a1 => ?_) (fun a0 => h_26_4 hL ⟨fun _ => R1 (by omega), fun h => absurd rfl h⟩)⟩
  refine h_26_4 hL ⟨fun h => absurd h (by decide), fun _ => ⟨by omega, nmc_48 hL (fun b0 b1 => ?_) (fun b0 => h_26_11 hL ⟨fun _ => R1 (by omega), fun h => absurd rfl h⟩)⟩⟩
  refine h_26_11 hL ⟨fun h => absurd h (by decide), fun _ => ⟨fun h => R1 (by omega), fun h1 => ⟨fun h2 => ⟨fun h3 => ⟨by omega, ?_⟩, fun h3 => ?_⟩, fun h => R1 (by omega)⟩⟩⟩
  · unfold sp_26 at hQ; rw [if_neg (by omega), if_neg (by omega)] at hQ
    refine nmc_117 hL hS o1.1 (by omega) (fun M1 F1 S1 => ?_)
    have hL1 := nm_Lay_fr hL F1 (by decide +kernel)
    have C1 : nm_C M1 (ns_S X (nm_hrS (nx_S X) h p m)) := ⟨⟨hL1, S1, nm_okS_hr hO (by omega) (by omega) (by omega) (by omega), nm_CX_fr (show nm_CX M 1 (nm_hrS (nx_S X) h p m) (nx_D X) from fun kq ka kb => hX kq ka (by have e : (nm_hrS (nx_S X) h p m) 2 = nx_S X 2 := (by unfold nm_hrS; rw [nm_up_ne (by omega), nm_up_ne (by omega), nm_up_ne (by omega), nm_up_ne (by omega)]); rw [e] at kb; exact kb)) (by decide) hL F1 (by decide +kernel) (by decide +kernel)⟩, nm_CW_fr c2 hL (by decide) F1 (by decide +kernel), nm_TX_fr c3 (by decide) hL F1 (by decide +kernel), nm_TX_fr c4 (by decide) hL F1 (by decide +kernel), nm_TX_fr c5 (by decide) hL F1 (by decide +kernel), ⟨(nm_gt_frn F1 hL (by decide) (by decide +kernel)).trans c6.1, fun k => nm_CI_fr (c6.2 k) hL (by decide) (by decide) F1 (by decide +kernel) (by decide +kernel) (by decide +kernel) (by decide +kernel)⟩, ⟨(nm_gt_frn F1 hL (by decide) (by decide +kernel)).trans c7.1, fun k => nm_CI_fr (c7.2 k) hL (by decide) (by decide) F1 (by decide +kernel) (by decide +kernel) (by decide +kernel) (by decide +kernel)⟩, nm_CU_fr (.inl rfl) c8 hL F1 (by decide +kernel), nm_CUp_fr c9 hL (by decide) F1 (by decide +kernel), nm_CP_fr c10 hL F1 (by decide +kernel) (by decide +kernel), nm_CR_fr c11 hL F1 (by decide +kernel), c12.imp id (fun e => nm_CW_fr e hL (by decide) F1 (by decide +kernel))⟩
    refine h_26_58 hL1 ?_
    rw [nm_s1 S1, nm_up_eq]
    exact ⟨by omega, nmx_44 C1 (fun M3 F3 C3 => h_26_69 (nm_C_L C3) (hQ M3 (nm_cFF F1 F3 (by decide +kernel) (by decide) (by decide)) C3))⟩
  · unfold sp_26 at hQ; rw [if_neg (by omega), if_pos (by omega)] at hQ
    exact ⟨by omega, nmp_ref (k := 26) (by decide) hC0 (fun M' L q => h_26_47 L q) hQ⟩
/-- forget -/
def sp_27 (X : nm_X) : nm_X × Int := (ns_S X (nm_up (nx_S X) 1 0), nx_S X 1)
theorem nmp_27 {d : Nat} {X : nm_X} {M : am_M} {Q : List am_V → am_M → Prop} (hC : nm_C M X) (hQ : nm_KC (sp_27 X).1 [(0, (sp_27 X).2)] M Q) : am_CL d 27 [(2, 0)] M Q := by
  have hL := nm_C_L hC
  obtain ⟨c1, c2, c3, c4, c5, c6, c7, c8, c9, c10, c11, c12⟩ := hC
  obtain ⟨-, hS, hO, hX⟩ := c1
  refine h_27_0 hL ?_
  rw [nm_s1 hS]
  have F1 : nm_Fr [(1, 6, 7)] M (am_st M 1 6 0) := nm_Fr_st (nm_Fg_refl _ _) (by decide)
  have S1 : nm_CS (am_st M 1 6 0) 1 (nm_up (nx_S X) 1 0) := nm_CS_up hS nm_c1
  have C1 : nm_C (am_st M 1 6 0) (ns_S X (nm_up (nx_S X) 1 0)) := ⟨⟨nm_Lay_fr hL F1 (by decide +kernel), S1, nm_okS_up hO (by omega) (by omega) (by omega) (by omega) (by omega) (by omega) (by omega), nm_CX_fr (show nm_CX M 1 (nm_up (nx_S X) 1 0) (nx_D X) from fun kq ka kb => hX kq ka (by have e : (nm_up (nx_S X) 1 0) 2 = nx_S X 2 := (nm_up_ne (by omega)); rw [e] at kb; exact kb)) (by decide) hL F1 (by decide +kernel) (by decide +kernel)⟩, nm_CW_fr c2 hL (by decide) F1 (by decide +kernel), nm_TX_fr c3 (by decide) hL F1 (by decide +kernel), nm_TX_fr c4 (by decide) hL F1 (by decide +kernel), nm_TX_fr c5 (by decide) hL F1 (by decide +kernel), ⟨(nm_gt_frn F1 hL (by decide) (by decide +kernel)).trans c6.1, fun k => nm_CI_fr (c6.2 k) hL (by decide) (by decide) F1 (by decide +kernel) (by decide +kernel) (by decide +kernel) (by decide +kernel)⟩, ⟨(nm_gt_frn F1 hL (by decide) (by decide +kernel)).trans c7.1, fun k => nm_CI_fr (c7.2 k) hL (by decide) (by decide) F1 (by decide +kernel) (by decide +kernel) (by decide +kernel) (by decide +kernel)⟩, nm_CU_fr (.inl rfl) c8 hL F1 (by decide +kernel), nm_CUp_fr c9 hL (by decide) F1 (by decide +kernel), nm_CP_fr c10 hL F1 (by decide +kernel) (by decide +kernel), nm_CR_fr c11 hL F1 (by decide +kernel), c12.imp id (fun e => nm_CW_fr e hL (by decide) F1 (by decide +kernel))⟩
  exact hQ _ (nm_cF F1 (by decide +kernel)) C1
/-- terms -/
def sp_8 (X : nm_X) (k v : Int) : nm_X × Int := if 0 ≤ v ∧ ((k = 0 ∧ v ≤ 999) ∨ (k = 1 ∧ v ≤ 10) ∨ (k = 2 ∧ v ≤ 9) ∨ (k = 3 ∧ 1 ≤ v ∧ v ≤ 8)) then (nx_fn (ns_U (ns_W (ns_S X (if k = 0 then nx_S X else nm_up (nx_S X) (4 + k) v)) (if k = 0 then v else (nx_W X).1, (nx_W X).2)) []), if k = 0 then (nx_W X).1 else nx_S X (4 + k)) else (nx_rf X (-1), -1)
theorem nm_okS_term {S : Int → Int} {k v : Int} (hO : nm_okS S) (ht : nm_trm k v) : nm_okS (if k = 0 then S else nm_up S (4 + k) v) := by
  unfold nm_trm at ht
  by_cases h : k = 0
  · rw [if_pos h]; exact hO
  · rw [if_neg h]; exact nm_okS_up hO (by omega) (by omega) (by omega) (by omega) (by omega) (by omega) (by omega)
theorem nm_ifup {S : Int → Int} {k v j : Int} (h : j ≠ 4 + k) : (if k = 0 then S else nm_up S (4 + k) v) j = S j := by
  by_cases hk : k = 0
  · rw [if_pos hk]
  · rw [if_neg hk, nm_up_ne h]
theorem nmp_8 {d : Nat} {k v : Int} {X : nm_X} {M : am_M} {Q : List am_V → am_M → Prop} (hd : 2 ≤ d) (hC : nm_C M X) (hok : nm_ok X) (hQ : nm_KC (sp_8 X k v).1 [(0, (sp_8 X k v).2)] M Q) : am_CL d 8 [(2, 0), (0, k), (0, v)] M Q := by
  have hL := nm_C_L hC
  have hC0 := hC
  obtain ⟨c1, c2, c3, c4, c5, c6, c7, c8, c9, c10, c11, c12⟩ := hC
  obtain ⟨-, hS, hO, hX⟩ := c1
  have hn0 : 0 ≤ (nx_W X).1 := hok.1.2.2.1.1
  have o5 := hO.2.2.2.2.1
  have o6 := hO.2.2.2.2.2.1
  have o7 := hO.2.2.2.2.2.2.1
  have R1 : ∀ s0 : Int, ¬ nm_trm k v → 0 < d ∧ am_CL (d - 1) 43 [(2, 0), (0, (-1))] M (fun r M' => am_WP d am_c8 31 [(2, 0), (0, k), (0, v), (0, s0)] (r ++ []) M' Q) := by
    intro s0 h
    unfold nm_trm at h
    unfold sp_8 at hQ; rw [if_neg h] at hQ
    exact ⟨by omega, nmp_ref (k := 8) (by decide) hC0 (fun M' L q => h_8_31 L q) hQ⟩
  refine h_8_0 hL ⟨by omega, nmc_120 hL hS c2 ?_⟩
  refine h_8_8 hL ⟨fun h => R1 _ ?_, fun h => ⟨by omega, nmc_121 hL hS c2 (fun ht => h_8_23 hL ⟨fun h => absurd rfl h, fun _ => R1 _ ht⟩) (fun M1 ht F1 S1 W1 => ?_)⟩⟩
  · intro ht
    unfold nm_trm at ht
    by_cases h0 : k = 0
    · rw [if_pos h0] at h; omega
    · rw [if_neg h0, if_pos (by omega)] at h
      have hk : k = 1 ∨ k = 2 ∨ k = 3 := by omega
      rcases hk with rfl | rfl | rfl
      · have : nx_S X 5 = -1 := h
        omega
      · have : nx_S X 6 = -1 := h
        omega
      · have : nx_S X 7 = -1 := h
        omega
  · have hL1 := nm_Lay_fr hL F1 (by decide +kernel)
    have ht1 := ht
    unfold nm_trm at ht1
    unfold sp_8 at hQ; rw [if_pos ht1] at hQ
    have F2 : nm_Fr (nm_Sg 1 ++ nm_Wg 11 ++ [(34, 0, 1)]) M (am_st M1 34 0 0) := nm_Fr_st (nm_Fr_appl F1) (by decide +kernel)
    have F2' : nm_Fr [(34, 0, 1)] M1 (am_st M1 34 0 0) := nm_Fr_st (nm_Fg_refl _ _) (by decide)
    have hL2 := nm_Lay_fr hL1 F2' (by decide +kernel)
    have C2 : nm_C (am_st M1 34 0 0) (ns_U (ns_W (ns_S X (if k = 0 then nx_S X else nm_up (nx_S X) (4 + k) v)) (if k = 0 then v else (nx_W X).1, (nx_W X).2)) []) :=
      ⟨⟨hL2, nm_CS_fr S1 hL1 (by decide) F2' (by decide +kernel), nm_okS_term hO ht, nm_CX_fr (show nm_CX M 1 (if k = 0 then nx_S X else nm_up (nx_S X) (4 + k) v) (nx_D X) from fun kq ka kb => hX kq ka (by have e : (if k = 0 then nx_S X else nm_up (nx_S X) (4 + k) v) 2 = nx_S X 2 := (nm_ifup (by unfold nm_trm at ht; omega)); rw [e] at kb; exact kb)) (by decide) hL F2 (by decide +kernel) (by decide +kernel)⟩, nm_CW_fr W1 hL1 (by decide) F2' (by decide +kernel), nm_TX_fr c3 (by decide) hL F2 (by decide +kernel), nm_TX_fr c4 (by decide) hL F2 (by decide +kernel), nm_TX_fr c5 (by decide) hL F2 (by decide +kernel), ⟨(nm_gt_frn F2 hL (by decide) (by decide +kernel)).trans c6.1, fun k => nm_CI_fr (c6.2 k) hL (by decide) (by decide) F2 (by decide +kernel) (by decide +kernel) (by decide +kernel) (by decide +kernel)⟩, ⟨(nm_gt_frn F2 hL (by decide) (by decide +kernel)).trans c7.1, fun k => nm_CI_fr (c7.2 k) hL (by decide) (by decide) F2 (by decide +kernel) (by decide +kernel) (by decide +kernel) (by decide +kernel)⟩, nm_CU_nil (nm_CUp_fr c8.1 hL (by decide) F2 (by decide +kernel)) nm_st_eq, nm_CUp_fr c9 hL (by decide) F2 (by decide +kernel), nm_CP_fr c10 hL F2 (by decide +kernel) (by decide +kernel), nm_CR_fr c11 hL F2 (by decide +kernel), c12.imp id (fun e => nm_CW_fr e hL (by decide) F2 (by decide +kernel))⟩
    refine h_8_23 hL1 ⟨fun _ => ⟨by omega, nmx_44 C2 (fun M3 F3 C3 => h_8_45 (nm_C_L C3) ?_)⟩, fun h => absurd h (by decide)⟩
    have := hQ M3 (nm_cFF F2 F3 (by decide +kernel) (by decide) (by decide)) C3
    simp only at this ⊢
    by_cases h0 : k = 0
    · rw [if_pos h0] at this ⊢; exact this
    · rw [if_neg h0] at this ⊢; rw [if_pos (by unfold nm_trm at ht; omega)]; exact this
/-- drawn -/
def sp_38 (X : nm_X) (k w : Int) : nm_X × Int := (X, if nx_R X 10 = -1 ∨ k < 0 then -1 else if w = 0 then (if k < 8 then (nx_Y X).2.2.2 k else -1) else if nx_R X 10 ≤ k then -1 else if w = 1 then (nx_Y X).2.2.1 k else if w = 2 then nm_ix (nx_Y X).2.1 k else -1)
theorem nmp_38 {d : Nat} {k w : Int} {X : nm_X} {M : am_M} {Q : List am_V → am_M → Prop} (hd : 2 ≤ d) (hC : nm_C M X) (hok : nm_ok X) (hQ : nm_KC (sp_38 X k w).1 [(0, (sp_38 X k w).2)] M Q) : am_CL d 38 [(2, 0), (0, k), (0, w)] M Q := by
  have hL := nm_C_L hC
  have q := hQ M nm_cR hC
  unfold sp_38 at q
  simp only at q
  obtain ⟨c1, c2, c3, c4, c5, c6, c7, c8, c9, c10, c11, c12⟩ := hC
  have r10 : am_gt M 0 14 = nx_R X 10 := c11.2.2.2.2.2.2.2.2.2
  refine h_38_0 hL ?_
  rw [r10]
  refine ⟨fun h => ?_, fun h => ?_⟩
  · rw [if_pos (.inl h)] at q; exact q
  have hW := c12.resolve_left h
  obtain ⟨w1, w2, w3, w4, w5, w6⟩ := hW
  have r6 := (hok.2.2.2.2.resolve_left h).2.1
  refine ⟨fun h1 => ⟨fun h2 => ⟨fun h3 => ⟨fun h4 => ⟨fun h5 => ?_, fun h5 => ⟨by omega, nmc_137 hL (by decide) ⟨w1, w2, w3, w4, w5, w6⟩ (h_38_76 hL ?_)⟩⟩, fun h4 => ⟨h1, by omega, ?_⟩⟩, fun h3 => ?_⟩, fun h2 => ⟨fun h3 => ?_, fun h3 => ⟨h1, by omega, ?_⟩⟩⟩, fun h1 => ?_⟩
  · rw [if_neg (by omega), if_neg h2, if_neg (by omega), if_neg h4, if_neg h5] at q; exact q
  · rw [if_neg (by omega), if_neg h2, if_neg (by omega), if_neg h4, if_pos (by omega)] at q; exact q
  · rw [if_neg (by omega), if_neg h2, if_neg (by omega), if_pos (by omega)] at q; rw [show am_gt M 182 k = _ from w5 k h1 (by omega)]; exact q
  · rw [if_neg (by omega), if_neg h2, if_pos (by omega)] at q; exact q
  · rw [if_neg (by omega), if_pos (by omega), if_neg (by omega)] at q; exact q
  · rw [if_neg (by omega), if_pos (by omega), if_pos (by omega)] at q; rw [show am_gt M 183 k = _ from w6 k h1 (by omega)]; exact q
  · rw [if_pos (by omega)] at q; exact q
/-- count -/
def sp_41 (X : nm_X) (k : Int) : nm_X × Int := (X, if k = 0 then nx_S X 0 else if k = 1 then ((nx_W X).2.1.length : Int) else if k = 2 then nm_sm (nx_W X).2.2.2 8 else if k = 3 then nx_S X 1 else if k = 4 then nx_S X 2 else if k = 5 then ((nx_U X).length : Int) else if k = 6 then nx_L X else if k = 7 then nx_R X 1 else if k = 8 then nx_R X 2 else if k = 9 then nx_R X 3 else if k = 10 then nx_R X 5 else if k = 11 then nx_R X 6 else if k = 12 then nx_S X 3 else if k = 13 then (nx_W X).1 else if 14 ≤ k ∧ k ≤ 16 then nx_S X (k - 9) else -1)
theorem nmp_41 {d : Nat} {k : Int} {X : nm_X} {M : am_M} {Q : List am_V → am_M → Prop} (hd : 2 ≤ d) (hC : nm_C M X) (hok : nm_ok X) (hQ : nm_KC (sp_41 X k).1 [(0, (sp_41 X k).2)] M Q) : am_CL d 41 [(2, 0), (0, k)] M Q := by
  have hL := nm_C_L hC
  have q := hQ M nm_cR hC
  unfold sp_41 at q
  simp only at q
  have oW : nm_okW (nx_S X 0) (nx_W X) := hok.1.2.2.1
  obtain ⟨c1, c2, c3, c4, c5, c6, c7, c8, c9, c10, c11, c12⟩ := hC
  obtain ⟨-, hS, hO, hX⟩ := c1
  obtain ⟨r0, r1, r2, r3, r5, r6, -⟩ := c11
  have cW := c2
  obtain ⟨w1, w2, w3, w4, w5, w6⟩ := c2
  have a46 : k < 7 ∨ 11 < k → k < 13 ∨ 16 < k → am_WP d am_c41 46 [(2, 0), (0, k)] [] M Q := by
    intro x1 x2
    refine h_41_46 hL ⟨fun e0 => ?_, fun e0 => ⟨fun e1 => ?_, fun e1 => ⟨fun e2 => ⟨by omega, nmc_140 hL (by decide) cW oW.2.2.2.2.2 (h_41_141 hL ?_)⟩, fun e2 => ⟨fun e3 => ?_, fun e3 => ⟨fun e4 => ?_, fun e4 => ⟨fun e5 => ?_, fun e5 => ⟨fun e6 => ?_, fun e6 => ⟨fun h => absurd h (by omega), fun _ => ⟨fun h => absurd h (by omega), fun _ => ⟨fun h => absurd h (by omega), fun _ => ⟨fun h => absurd h (by omega), fun _ => ⟨fun h => absurd h (by omega), fun _ => ⟨fun e12 => ?_, fun e12 => ?_⟩⟩⟩⟩⟩⟩⟩⟩⟩⟩⟩⟩⟩
    · rw [if_pos e0] at q; rw [nm_s0 hS]; exact q
    · rw [if_neg e0, if_pos e1] at q; rw [w2]; exact q
    · rw [if_neg e0, if_neg e1, if_pos e2] at q; exact q
    · rw [if_neg e0, if_neg e1, if_neg e2, if_pos e3] at q; rw [nm_s1 hS]; exact q
    · rw [if_neg e0, if_neg e1, if_neg e2, if_neg e3, if_pos e4] at q; rw [nm_s2 hS]; exact q
    · rw [if_neg e0, if_neg e1, if_neg e2, if_neg e3, if_neg e4, if_pos e5] at q; rw [c8.2.1]; exact q
    · rw [if_neg e0, if_neg e1, if_neg e2, if_neg e3, if_neg e4, if_neg e5, if_pos e6] at q; rw [c10.1]; exact q
    · rw [if_neg e0, if_neg e1, if_neg e2, if_neg e3, if_neg e4, if_neg e5, if_neg e6, if_neg (by omega), if_neg (by omega), if_neg (by omega), if_neg (by omega), if_neg (by omega), if_pos e12] at q; rw [nm_s3 hS]; exact q
    · rw [if_neg e0, if_neg e1, if_neg e2, if_neg e3, if_neg e4, if_neg e5, if_neg e6, if_neg (by omega), if_neg (by omega), if_neg (by omega), if_neg (by omega), if_neg (by omega), if_neg e12, if_neg (by omega), if_neg (by omega)] at q; exact q
  have a22 : k < 7 ∨ 11 < k → am_WP d am_c41 22 [(2, 0), (0, k)] [] M Q := by
    intro x1
    refine h_41_22 hL ⟨fun h => a46 x1 (.inl h), fun h => ⟨fun h' => a46 x1 (.inr h'), fun h' => ⟨by omega, ?_⟩⟩⟩
    rw [am_w_id (x := k - 13) (by omega) (by omega)]
    refine nmc_120 hL hS cW (h_41_45 hL ?_)
    rw [if_neg (by omega), if_neg (by omega), if_neg (by omega), if_neg (by omega), if_neg (by omega), if_neg (by omega), if_neg (by omega), if_neg (by omega), if_neg (by omega), if_neg (by omega), if_neg (by omega), if_neg (by omega), if_neg (by omega)] at q
    by_cases h13 : k = 13
    · rw [if_pos h13] at q; rw [if_pos (by omega)]; exact q
    · rw [if_neg h13, if_pos (by omega)] at q; rw [if_neg (by omega), if_pos (by omega), show 4 + (k - 13) = k - 9 by omega]; exact q
  refine h_41_0 hL ⟨fun h => a22 (.inl h), fun h => ⟨fun h' => a22 (.inr h'), fun h' => ?_⟩⟩
  rw [am_w_id (x := k - 7) (by omega) (by omega)]
  refine ⟨by omega, by omega, ?_⟩
  have hk : k = 7 ∨ k = 8 ∨ k = 9 ∨ k = 10 ∨ k = 11 := by omega
  rcases hk with rfl | rfl | rfl | rfl | rfl
  · show Q [(0, am_gt M 184 0)] M; rw [r1]; exact q
  · show Q [(0, am_gt M 184 1)] M; rw [r2]; exact q
  · show Q [(0, am_gt M 184 2)] M; rw [r3]; exact q
  · show Q [(0, am_gt M 184 3)] M; rw [r5]; exact q
  · show Q [(0, am_gt M 184 4)] M; rw [r6]; exact q
