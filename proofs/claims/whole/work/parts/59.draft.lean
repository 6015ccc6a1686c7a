/-! CALLS OF THE CLASS, the plain ones -/
abbrev nm_KC (X : nm_X) (r : List am_V) (M : am_M) (Q : List am_V → am_M → Prop) : Prop := ∀ M', nm_Fg 3 600 nm_cAll M M' → nm_C M' X → Q r M'
theorem nm_cF {f : nm_Rg} {M M' : am_M} (F : nm_Fr f M M') (h : nm_sb f nm_cAll = true) : nm_Fg 3 600 nm_cAll M M' := nm_Fg_sub F h (by decide) (by decide)
theorem nm_cR {M : am_M} : nm_Fg 3 600 nm_cAll M M := nm_Fg_sub (nm_Fg_refl nm_cAll M) (by decide +kernel) (by decide) (by decide)
theorem nm_cFF {n s : Int} {f : nm_Rg} {M M' M'' : am_M} (F : nm_Fg n s f M M') (F' : nm_Fr nm_Rf M' M'') (h : nm_sb f nm_cAll = true) (hn : n ≤ 3) (hs : s ≤ 600) : nm_Fg 3 600 nm_cAll M M'' := by
  have := nm_Fg_trans (nm_Fg_sub F h hn hs) (nm_Fr_sub F' (g := nm_cAll) (by decide +kernel))
  simpa only [Int.add_zero] using this
/-- refused, and nothing more -/
theorem nmp_ref {d k : Nat} {pc : Nat} {v : Int} {ls : List am_V} {X : nm_X} {M : am_M} {Q : List am_V → am_M → Prop} (hv : v = -1 ∨ v = -2 ∨ v = -3 ∨ v = -5 ∨ v = -6) (hC : nm_C M X) (hw : ∀ M', nm_Lay M' → Q [(0, v)] M' → am_WP d (am_cs k) pc ls [(0, v)] M' Q) (hQ : nm_KC (nx_rf X v) [(0, v)] M Q) : am_CL (d - 1) 43 [(2, 0), (0, v)] M (fun r M' => am_WP d (am_cs k) pc ls (r ++ []) M' Q) :=
  nmx_43 hv hC (fun M' F C => hw M' (nm_C_L C) (hQ M' (nm_cF F (by decide +kernel)) C))
def sp_12 (X : nm_X) : nm_X × Int := (X, nx_R X 7)
theorem nmp_12 {d : Nat} {X : nm_X} {M : am_M} {Q : List am_V → am_M → Prop} (hC : nm_C M X) (hQ : nm_KC (sp_12 X).1 [(0, (sp_12 X).2)] M Q) : am_CL d 12 [(2, 0)] M Q := by
  refine h_12_0 (nm_C_L hC) ?_
  rw [hC.2.2.2.2.2.2.2.2.2.2.1.2.2.2.2.2.2.1]; exact hQ M nm_cR hC
def sp_15 (X : nm_X) : nm_X × Int := (X, nx_R X 8)
theorem nmp_15 {d : Nat} {X : nm_X} {M : am_M} {Q : List am_V → am_M → Prop} (hC : nm_C M X) (hQ : nm_KC (sp_15 X).1 [(0, (sp_15 X).2)] M Q) : am_CL d 15 [(2, 0)] M Q := by
  refine h_15_0 (nm_C_L hC) ?_
  rw [hC.2.2.2.2.2.2.2.2.2.2.1.2.2.2.2.2.2.2.1]; exact hQ M nm_cR hC
def sp_16 (X : nm_X) : nm_X × Int := (X, nx_R X 9)
theorem nmp_16 {d : Nat} {X : nm_X} {M : am_M} {Q : List am_V → am_M → Prop} (hC : nm_C M X) (hQ : nm_KC (sp_16 X).1 [(0, (sp_16 X).2)] M Q) : am_CL d 16 [(2, 0)] M Q := by
  refine h_16_0 (nm_C_L hC) ?_
  rw [hC.2.2.2.2.2.2.2.2.2.2.1.2.2.2.2.2.2.2.2.1]; exact hQ M nm_cR hC
def sp_42 (X : nm_X) : nm_X × Int := (X, nx_R X 0)
theorem nmp_42 {d : Nat} {X : nm_X} {M : am_M} {Q : List am_V → am_M → Prop} (hC : nm_C M X) (hQ : nm_KC (sp_42 X).1 [(0, (sp_42 X).2)] M Q) : am_CL d 42 [(2, 0)] M Q := by
  refine h_42_0 (nm_C_L hC) ?_
  rw [hC.2.2.2.2.2.2.2.2.2.2.1.1]; exact hQ M nm_cR hC
/-- mirror -/
def sp_1 (X : nm_X) (v b s : Int) : nm_X × Int := if nm_pc v = 0 ∨ b < 0 ∨ 7 < b ∨ s < 1 ∨ 30 < s then (nx_rf X (-1), -1) else if 6 ≤ nx_S X 0 then (nx_rf X (-5), -5) else (nx_fn (ns_U (ns_W (ns_S X (nm_addS (nx_S X) v (nm_pc v) b)) ((nx_W X).1, (nx_W X).2.1, nm_up (nx_W X).2.2.1 (nx_S X 0) s, (nx_W X).2.2.2)) []), nx_S X 0)
theorem nm_pc_in {v : Int} : 0 ≤ nm_pc v ∧ nm_pc v ≤ 5 := by unfold nm_pc; repeat' split <;> omega
theorem nm_pc_dig {v : Int} (h : nm_pc v ≠ 0) : 0 < v ∧ (1 ≤ v % 10 ∧ v % 10 ≤ 8) ∧ (2 ≤ nm_pc v → 1 ≤ v / 10 % 10 ∧ v / 10 % 10 ≤ 8) ∧ (3 ≤ nm_pc v → 1 ≤ v / 100 % 10 ∧ v / 100 % 10 ≤ 8) ∧ (4 ≤ nm_pc v → 1 ≤ v / 1000 % 10 ∧ v / 1000 % 10 ≤ 8) ∧ (5 ≤ nm_pc v → 1 ≤ v / 10000 % 10 ∧ v / 10000 % 10 ≤ 8) := by
  unfold nm_pc at h ⊢
  repeat' split at h
  all_goals first
    | exact absurd rfl h
    | (simp only [*, if_true, if_false, if_neg, if_pos]; omega)
theorem nm_dg_cases {b j : Int} : ∀ {k : Nat} {v : Int} {S : Int → Int}, nm_dg b k v S j = S j ∨ ∃ i : Nat, i < k ∧ nm_dg b k v S j = v / 10 ^ i % 10 - 1
  | 0, _, _ => .inl rfl
  | k + 1, v, S => by
    show nm_dg b k (v / 10) (nm_up S (b + (k : Int)) (v % 10 - 1)) j = S j ∨ ∃ i : Nat, i < k + 1 ∧ nm_dg b k (v / 10) (nm_up S (b + (k : Int)) (v % 10 - 1)) j = v / 10 ^ i % 10 - 1
    rcases nm_dg_cases (b := b) (j := j) (k := k) (v := v / 10) (S := nm_up S (b + (k : Int)) (v % 10 - 1)) with e | ⟨i, hi, e⟩
    · rw [e]
      by_cases hj : j = b + (k : Int)
      · refine .inr ⟨0, by omega, ?_⟩
        rw [hj, nm_up_eq, Int.pow_zero, Int.ediv_one]
      · exact .inl (nm_up_ne hj)
    · refine .inr ⟨i + 1, by omega, ?_⟩
      rw [e, Int.pow_succ, Int.mul_comm, ← Int.ediv_ediv_of_nonneg (by decide)]
theorem nm_addS_lo {S : Int → Int} {v n b j : Int} (h0 : 0 ≤ S 0) (h6 : S 0 < 6) (hn : n ≤ 5) (h : (1 ≤ j ∧ j < 29) ∨ 77 ≤ j) : nm_addS S v n b j = S j := by
  unfold nm_addS
  rw [nm_up_ne (by omega), nm_up_ne (by omega), nm_up_ne (by omega), nm_up_ne (by omega), nm_dg_ne (by omega)]
theorem nm_addS_0 {S : Int → Int} {v n b : Int} : nm_addS S v n b 0 = S 0 + 1 := nm_up_eq _ _ _
theorem nm_okS_add {S : Int → Int} {v b : Int} (hO : nm_okS S) (h6 : S 0 < 6) (hp : nm_pc v ≠ 0) (hb : 0 ≤ b) (hb7 : b ≤ 7) : nm_okS (nm_addS S v (nm_pc v) b) := by
  obtain ⟨o0, o1, o2, o3, o5, o6, o7, o29, o35, o65, o71, o77, oh⟩ := hO
  have hpi := nm_pc_in (v := v)
  have lo : ∀ j, ((1 ≤ j ∧ j < 29) ∨ 77 ≤ j) → nm_addS S v (nm_pc v) b j = S j := fun j h => nm_addS_lo o0.1 h6 hpi.2 h
  have e0 := nm_addS_0 (S := S) (v := v) (n := nm_pc v) (b := b)
  refine ⟨by rw [e0]; omega, by rw [lo 1 (by omega)]; exact o1, by rw [lo 2 (by omega)]; exact o2, by rw [lo 3 (by omega), lo 2 (by omega)]; exact o3, by rw [lo 5 (by omega)]; exact o5, by rw [lo 6 (by omega)]; exact o6, by rw [lo 7 (by omega)]; exact o7, fun m a c => ?_, fun k a c => ?_, fun m a c => ?_, fun m a c => ?_, fun p a c => by rw [lo _ (by omega)]; exact o77 p a c, fun i a c => ?_⟩
  · rw [e0] at c
    unfold nm_addS
    rw [nm_up_ne (by omega), nm_up_ne (by omega), nm_up_ne (by omega)]
    by_cases hm : m = S 0
    · rw [hm, nm_up_eq]; omega
    · rw [nm_up_ne (by omega), nm_dg_ne (by omega)]; exact o29 m a (by omega)
  · unfold nm_addS
    rw [nm_up_ne (by omega), nm_up_ne (by omega), nm_up_ne (by omega), nm_up_ne (by omega)]
    rcases nm_dg_cases (b := 35 + 5 * S 0) (j := 35 + k) (k := (nm_pc v).toNat) (v := v) (S := S) with e | ⟨i, hi, e⟩
    · rw [e]; exact o35 k a c
    · rw [e]
      obtain ⟨d0, d1, d2, d3, d4, d5⟩ := nm_pc_dig hp
      have hi5 : i = 0 ∨ i = 1 ∨ i = 2 ∨ i = 3 ∨ i = 4 := by omega
      rcases hi5 with rfl | rfl | rfl | rfl | rfl
      · rw [Int.pow_zero, Int.ediv_one]; omega
      · have := d2 (by omega); simp only [Int.reducePow]; omega
      · have := d3 (by omega); simp only [Int.reducePow]; omega
      · have := d4 (by omega); simp only [Int.reducePow]; omega
      · have := d5 (by omega); simp only [Int.reducePow]; omega
  · unfold nm_addS
    rw [nm_up_ne (by omega), nm_up_ne (by omega)]
    by_cases hm : m = S 0
    · rw [hm, nm_up_eq]; omega
    · rw [nm_up_ne (by omega), nm_up_ne (by omega), nm_dg_ne (by omega)]; exact o65 m a c
  · unfold nm_addS
    rw [nm_up_ne (by omega)]
    by_cases hm : m = S 0
    · rw [hm, nm_up_eq]; omega
    · rw [nm_up_ne (by omega), nm_up_ne (by omega), nm_up_ne (by omega), nm_dg_ne (by omega)]; exact o71 m a c
  · rw [lo 1 (by omega)] at c
    rw [lo _ (by omega), lo _ (by omega), lo _ (by omega)]; exact oh i a c
theorem nm_CU_nil {M : am_M} (h : nm_CUp M 34) (h0 : am_gt M 34 0 = 0) : nm_CU M 34 [] := ⟨h, h0, by decide, fun k hk => absurd hk (by simp)⟩
theorem nmp_1 {d : Nat} {v b s : Int} {X : nm_X} {M : am_M} {Q : List am_V → am_M → Prop} (hd : 2 ≤ d) (hv : am_i32 v) (hC : nm_C M X) (hQ : nm_KC (sp_1 X v b s).1 [(0, (sp_1 X v b s).2)] M Q) : am_CL d 1 [(2, 0), (0, v), (0, b), (0, s)] M Q := by
  have hL := nm_C_L hC
  have hC0 := hC
  obtain ⟨c1, c2, c3, c4, c5, c6, c7, c8, c9, c10, c11, c12⟩ := hC
  obtain ⟨-, hS, hO, hX⟩ := c1
  have s0 := nm_s0 hS
  have o0 := hO.1
  have hpi := nm_pc_in (v := v)
  refine h_1_0 hL ⟨by omega, nmc_50 hL hv.2 ?_⟩
  have R1 : (nm_pc v = 0 ∨ b < 0 ∨ 7 < b ∨ s < 1 ∨ 30 < s) → 0 < d ∧ am_CL (d - 1) 43 [(2, 0), (0, (-1))] M (fun r M' => am_WP d am_c1 37 [(2, 0), (0, v), (0, b), (0, s), (0, nm_pc v), (9, 0)] (r ++ []) M' Q) := by
    intro h
    unfold sp_1 at hQ; rw [if_pos h] at hQ
    exact ⟨by omega, nmp_ref (k := 1) (by decide) hC0 (fun M' L q => h_1_37 L q) hQ⟩
  refine h_1_4 hL ⟨fun h => R1 (by omega), fun h1 => ⟨fun h => R1 (by omega), fun h2 => ⟨fun h => R1 (by omega), fun h3 => ⟨fun h => R1 (by omega), fun h4 => ⟨fun h5 => ⟨fun h6 => ⟨by omega, ?_⟩, fun h6 => ?_⟩, fun h => R1 (by omega)⟩⟩⟩⟩⟩
  · rw [s0] at h6 ⊢
    unfold sp_1 at hQ; rw [if_neg (by omega), if_neg (by omega)] at hQ
    obtain ⟨p0, -⟩ := nm_pc_dig h1
    refine nmc_115 hL hS c2 o0.1 h6 (by omega) hv.2 hpi.1 hpi.2 (fun M1 F1 S1 W1 => ?_)
    have hL1 := nm_Lay_fr hL F1 (by decide +kernel)
    refine h_1_78 hL1 ⟨by omega, ?_⟩
    have F2 : nm_Fr (nm_Sg 1 ++ nm_Wg 11 ++ [(34, 0, 1)]) M (am_st M1 34 0 0) := nm_Fr_st (nm_Fr_appl F1) (by decide +kernel)
    have F2' : nm_Fr [(34, 0, 1)] M1 (am_st M1 34 0 0) := nm_Fr_st (nm_Fg_refl _ _) (by decide)
    have hL2 := nm_Lay_fr hL1 F2' (by decide +kernel)
    have C2 : nm_C (am_st M1 34 0 0) (ns_U (ns_W (ns_S X (nm_addS (nx_S X) v (nm_pc v) b)) ((nx_W X).1, (nx_W X).2.1, nm_up (nx_W X).2.2.1 (nx_S X 0) s, (nx_W X).2.2.2)) []) :=
      ⟨⟨hL2, nm_CS_fr S1 hL1 (by decide) F2' (by decide +kernel), nm_okS_add hO h6 h1 (by omega) (by omega), nm_CX_fr (show nm_CX M 1 (nm_addS (nx_S X) v (nm_pc v) b) (nx_D X) from fun kq ka kb => hX kq ka (by have e : (nm_addS (nx_S X) v (nm_pc v) b) 2 = nx_S X 2 := (nm_addS_lo o0.1 h6 hpi.2 (by omega)); rw [e] at kb; exact kb)) (by decide) hL F2 (by decide +kernel) (by decide +kernel)⟩, nm_CW_fr W1 hL1 (by decide) F2' (by decide +kernel), nm_TX_fr c3 (by decide) hL F2 (by decide +kernel), nm_TX_fr c4 (by decide) hL F2 (by decide +kernel), nm_TX_fr c5 (by decide) hL F2 (by decide +kernel), ⟨(nm_gt_frn F2 hL (by decide) (by decide +kernel)).trans c6.1, fun k => nm_CI_fr (c6.2 k) hL (by decide) (by decide) F2 (by decide +kernel) (by decide +kernel) (by decide +kernel) (by decide +kernel)⟩, ⟨(nm_gt_frn F2 hL (by decide) (by decide +kernel)).trans c7.1, fun k => nm_CI_fr (c7.2 k) hL (by decide) (by decide) F2 (by decide +kernel) (by decide +kernel) (by decide +kernel) (by decide +kernel)⟩, nm_CU_nil (nm_CUp_fr c8.1 hL (by decide) F2 (by decide +kernel)) nm_st_eq, nm_CUp_fr c9 hL (by decide) F2 (by decide +kernel), nm_CP_fr c10 hL F2 (by decide +kernel) (by decide +kernel), nm_CR_fr c11 hL F2 (by decide +kernel), c12.imp id (fun e => nm_CW_fr e hL (by decide) F2 (by decide +kernel))⟩
    exact nmx_44 C2 (fun M3 F3 C3 => h_1_92 (nm_C_L C3) (hQ M3 (nm_cFF F2 F3 (by decide +kernel) (by decide) (by decide)) C3))
  · rw [s0] at h6
    unfold sp_1 at hQ; rw [if_neg (by omega), if_pos (by omega)] at hQ
    exact ⟨by omega, nmp_ref (k := 1) (by decide) hC0 (fun M' L q => h_1_56 L q) hQ⟩
/-- of -/
def sp_2 (X : nm_X) (m k : Int) : nm_X × Int := (X, if 0 ≤ m ∧ m < nx_S X 0 then (if k = 0 then nx_S X (29 + m) else if k = 1 then nx_S X (65 + m) else if k = 2 then (nx_W X).2.2.1 m else if k = 3 then nm_ix (nx_W X).2.1 m else if k = 4 then nm_wear (nx_S X) (nx_W X) (nm_lwf (nx_S X) (nx_D X)) m (nm_ix (nx_W X).2.1 m) else if 5 ≤ k ∧ k - 5 < nx_S X (29 + m) then nx_S X (35 + (5 * m + (k - 5))) else -1) else -1)
theorem nm_ix_in {l : List Int} {m : Int} (h : l.length ≤ 6) : -1 ≤ nm_ix l m ∧ nm_ix l m < 6 := by
  rcases nm_ix_cases l m with ⟨e, -⟩ | ⟨k, hk, -, e⟩ <;> omega
theorem nmp_2 {d : Nat} {m k : Int} {X : nm_X} {M : am_M} {Q : List am_V → am_M → Prop} (hd : 6 ≤ d) (hk : am_i32 k) (hC : nm_C M X) (hok : nm_ok X) (hQ : nm_KC (sp_2 X m k).1 [(0, (sp_2 X m k).2)] M Q) : am_CL d 2 [(2, 0), (0, m), (0, k)] M Q := by
  have hL := nm_C_L hC
  have hC0 := hC
  obtain ⟨c1, c2, c3, c4, c5, c6, c7, c8, c9, c10, c11, c12⟩ := hC
  have hA := c1
  obtain ⟨-, hS, hO, hX⟩ := c1
  have s0 := nm_s0 hS
  have o0 := hO.1
  have oW : nm_okW (nx_S X 0) (nx_W X) := hok.1.2.2.1
  have q := hQ M nm_cR hC0
  unfold sp_2 at hQ q
  simp only at hQ q
  refine h_2_0 hL ⟨by omega, nmc_46 hL (fun a0 a1 => ?_) (fun a0 => ?_)⟩
  · rw [s0] at a1
    rw [if_pos (by omega)] at hQ q
    have l := hO.2.2.2.2.2.2.2.1 m a0 a1
    refine h_2_5 hL ⟨fun _ => ⟨fun h0 => ⟨a0, by omega, ?_⟩, fun h0 => ⟨fun h1 => ⟨a0, by omega, ?_⟩, fun h1 => ⟨fun h2 => ⟨a0, by omega, ?_⟩, fun h2 => ⟨fun h3 => ⟨by omega, nmc_137 hL (by decide) c2 (h_2_88 hL ?_)⟩, fun h3 => ⟨fun h4 => ⟨by omega, nmc_137 hL (by decide) c2 (h_2_112 hL ⟨by omega, nmc_59 (by omega) hA (by decide) c2 oW a0 (by omega) ?_ (fun M1 F1 => h_2_115 (nm_Lay_fr hL F1 (by decide +kernel)) ?_)⟩)⟩, fun h4 => ⟨fun h5 => ?_, fun h5 => ⟨a0, by omega, ?_⟩⟩⟩⟩⟩⟩⟩, fun h => absurd h (by decide)⟩
    · rw [if_pos h0] at q; rw [nm_slong hS a0 (by omega)]; exact q
    · rw [if_neg h0, if_pos h1] at q; rw [nm_sbend hS a0 (by omega)]; exact q
    · rw [if_neg h0, if_neg h1, if_pos h2] at q; rw [show am_gt M 13 m = _ from c2.2.2.2.2.1 m a0 (by omega)]; exact q
    · rw [if_neg h0, if_neg h1, if_neg h2, if_pos h3] at q; exact q
    · have := nm_ix_in (m := m) c2.2.2.1; omega
    · rw [if_neg h0, if_neg h1, if_neg h2, if_neg h3, if_pos h4] at hQ
      exact hQ M1 (nm_cF F1 (by decide +kernel)) (nm_C_fr hC0 F1 (by decide +kernel))
    · rw [if_neg h0, if_neg h1, if_neg h2, if_neg h3, if_neg h4, if_neg (by omega)] at q; exact q
    · rw [if_neg h0, if_neg h1, if_neg h2, if_neg h3, if_neg h4] at q
      have := hk.2
      rw [nm_slong hS a0 (by omega), am_w_id (x := k - 5) (by omega) (by omega), am_w_id (x := m * 5) (by omega) (by omega)]
      refine ⟨fun h6 => ?_, fun h6 => ?_⟩
      · rw [if_neg (by omega)] at q; exact q
      · rw [if_pos (by omega)] at q
        rw [am_w_id (x := _ + _) (by omega) (by omega), nm_ssaw hS (by omega) (by omega), show m * 5 + (k - 5) = 5 * m + (k - 5) by omega]
        exact ⟨by omega, by omega, q⟩
  · rw [s0] at a0
    rw [if_neg (by omega)] at q
    exact h_2_5 hL ⟨fun h => absurd rfl h, fun _ => q⟩
/-- at -/
def sp_3 (X : nm_X) (p : Int) : nm_X × Int := (X, if 0 ≤ p ∧ p < ((nx_W X).2.1.length : Int) then (nx_W X).2.1.getD p.toNat 0 else -1)
theorem nmp_3 {d : Nat} {p : Int} {X : nm_X} {M : am_M} {Q : List am_V → am_M → Prop} (hC : nm_C M X) (hQ : nm_KC (sp_3 X p).1 [(0, (sp_3 X p).2)] M Q) : am_CL d 3 [(2, 0), (0, p)] M Q := by
  have hL := nm_C_L hC
  have q := hQ M nm_cR hC
  unfold sp_3 at q
  simp only at q
  obtain ⟨c1, c2, c3, c4, c5, c6, c7, c8, c9, c10, c11, c12⟩ := hC
  obtain ⟨w1, w2, w3, w4, w5, w6⟩ := c2
  refine h_3_0 hL ?_
  rw [w2]
  refine ⟨fun h => ?_, fun h => ⟨fun h1 => ?_, fun h1 => ⟨by omega, by omega, ?_⟩⟩⟩
  · rw [if_neg (by omega)] at q; exact q
  · rw [if_neg (by omega)] at q; exact q
  · rw [if_pos (by omega)] at q
    have := w4 p.toNat (by omega)
    rw [show ((p.toNat : Nat) : Int) = p by omega] at this
    rw [show am_gt M 12 p = _ from this]; exact q
/-- asks -/
def sp_4 (X : nm_X) (m p h w : Int) : nm_X × Int := (X, if (0 ≤ m ∧ m < nx_S X 0) ∧ (0 ≤ p ∧ p < 6) ∧ (1 ≤ h ∧ h ≤ 8) then (if w = 1 then (if nm_bar (nx_S X) (nx_W X) (nm_lwf (nx_S X) (nx_D X)) m p then 1 else 0) else if w = 0 ∧ p < h then nm_mk (nx_S X) (nx_W X) (nm_lwf (nx_S X) (nx_D X)) m p h else -1) else -1)
theorem nmp_4 {d : Nat} {m p h w : Int} {X : nm_X} {M : am_M} {Q : List am_V → am_M → Prop} (hd : 6 ≤ d) (hC : nm_C M X) (hok : nm_ok X) (hQ : nm_KC (sp_4 X m p h w).1 [(0, (sp_4 X m p h w).2)] M Q) : am_CL d 4 [(2, 0), (0, m), (0, p), (0, h), (0, w)] M Q := by
  have hL := nm_C_L hC
  have hC0 := hC
  obtain ⟨c1, c2, c3, c4, c5, c6, c7, c8, c9, c10, c11, c12⟩ := hC
  have hA := c1
  obtain ⟨-, hS, hO, hX⟩ := c1
  have s0 := nm_s0 hS
  have o0 := hO.1
  have oW : nm_okW (nx_S X 0) (nx_W X) := hok.1.2.2.1
  have q := hQ M nm_cR hC0
  unfold sp_4 at hQ q
  simp only at hQ q
  refine h_4_0 hL ⟨by omega, nmc_46 hL (fun a0 a1 => ?_) (fun a0 => ?_)⟩
  · rw [s0] at a1
    refine h_4_5 hL ⟨fun h => absurd h (by decide), fun _ => ⟨fun h1 => ?_, fun h1 => ⟨fun h2 => ?_, fun h2 => ⟨by omega, nmc_49 hL (fun b0 b1 => ?_) (fun b0 => ?_)⟩⟩⟩⟩
    · rw [if_neg (by omega)] at q; exact q
    · rw [if_neg (by omega)] at q; exact q
    · rw [if_pos (by omega)] at hQ q
      refine h_4_22 hL ⟨fun _ => ⟨fun w1 => ⟨fun w0 => ?_, fun w0 => ⟨fun ph => ⟨by omega, nmc_116 hL hS hO a0 a1 (by omega) ph b1 (h_4_80 hL ⟨by omega, nmc_123 (by omega) hL hS hO hX (fun t ht => h_4_100 hL ⟨by omega, nmc_58 (by omega) hA (by decide) c2 oW ht a0 (by omega) (by omega) (by omega) (nm_seen_in hO a0 a1 ph) (fun M1 F1 => h_4_108 (nm_Lay_fr hL F1 (by decide +kernel)) ?_)⟩)⟩)⟩, fun ph => ?_⟩⟩, fun w1 => ⟨by omega, nmc_61 (by omega) hA (by decide) c2 oW a0 (by omega) (by omega) (fun M1 F1 => ?_)⟩⟩, fun h => absurd h (by decide)⟩
      · rw [if_neg w1, if_neg (by omega)] at q; exact q
      · rw [if_neg w1, if_pos (by omega)] at hQ
        exact hQ M1 (nm_cF F1 (by decide +kernel)) (nm_C_fr hC0 F1 (by decide +kernel))
      · rw [if_neg w1, if_neg (by omega)] at q; exact q
      · rw [if_pos (by omega)] at hQ
        have := hQ M1 (nm_cF F1 (by decide +kernel)) (nm_C_fr hC0 F1 (by decide +kernel))
        have hL1 := nm_Lay_fr hL F1 (by decide +kernel)
        cases hb : nm_bar (nx_S X) (nx_W X) (nm_lwf (nx_S X) (nx_D X)) m p
        · rw [hb] at this; exact h_4_49 hL1 ⟨fun _ => this, fun h => absurd rfl h⟩
        · rw [hb] at this; exact h_4_49 hL1 ⟨fun h => absurd h (by decide), fun _ => this⟩
    · rw [if_neg (by omega)] at q
      exact h_4_22 hL ⟨fun h => absurd rfl h, fun _ => q⟩
  · rw [s0] at a0
    rw [if_neg (by omega)] at q
    exact h_4_5 hL ⟨fun _ => q, fun h => absurd rfl h⟩
/-- crack -/
def sp_5 (X : nm_X) (x y b : Int) : nm_X × Int := if x = y ∨ b < 0 ∨ 1 < b then (nx_rf X (-1), -1) else if x < 0 ∨ nx_S X 0 ≤ x ∨ y < 0 ∨ nx_S X 0 ≤ y then (nx_rf X (-2), -2) else (nx_fn (ns_S X (nm_crS (nx_S X) x y b)), nm_bit (nx_S X (71 + x)) y)
theorem nm_setb_in {c k b : Int} (hc : 0 ≤ c) (hc2 : c ≤ 63) (hk : 0 ≤ k) (hk2 : k < 6) (hb : 0 ≤ b) (hb2 : b ≤ 1) : 0 ≤ nm_setb c k b ∧ nm_setb c k b ≤ 63 := by
  obtain ⟨n, hn, rfl⟩ := nm_nat (n := 64) hc (by omega)
  obtain ⟨j, hj, rfl⟩ := nm_nat (n := 6) hk hk2
  obtain ⟨i, hi, rfl⟩ := nm_nat (n := 2) hb (by omega)
  have : ∀ c, c < 64 → ∀ k, k < 6 → ∀ b, b < 2 → 0 ≤ nm_setb ((c : Nat) : Int) ((k : Nat) : Int) ((b : Nat) : Int) ∧ nm_setb (c : Int) (k : Int) (b : Int) ≤ 63 := by decide +kernel
  exact this n hn j hj i hi
theorem nm_okS_cr {S : Int → Int} {x y b : Int} (hO : nm_okS S) (hx : 0 ≤ x) (hx6 : x < 6) (hy : 0 ≤ y) (hy6 : y < 6) (hb : 0 ≤ b) (hb2 : b ≤ 1) : nm_okS (nm_crS S x y b) := by
  obtain ⟨o0, o1, o2, o3, o5, o6, o7, o29, o35, o65, o71, o77, oh⟩ := hO
  have lo : ∀ j, (j < 71 ∨ 77 ≤ j) → nm_crS S x y b j = S j := fun j h => by unfold nm_crS; rw [nm_up_ne (by omega), nm_up_ne (by omega)]
  refine ⟨by rw [lo 0 (by omega)]; exact o0, by rw [lo 1 (by omega)]; exact o1, by rw [lo 2 (by omega)]; exact o2, by rw [lo 3 (by omega), lo 2 (by omega)]; exact o3, by rw [lo 5 (by omega)]; exact o5, by rw [lo 6 (by omega)]; exact o6, by rw [lo 7 (by omega)]; exact o7, fun m a c => ?_, fun k a c => by rw [lo _ (by omega)]; exact o35 k a c, fun m a c => by rw [lo _ (by omega)]; exact o65 m a c, fun m a c => ?_, fun p a c => by rw [lo _ (by omega)]; exact o77 p a c, fun i a c => ?_⟩
  · rw [lo 0 (by omega)] at c; rw [lo _ (by omega)]; exact o29 m a c
  · unfold nm_crS
    by_cases h1 : m = y
    · rw [h1, nm_up_eq]; exact nm_setb_in (o71 y hy hy6).1 (o71 y hy hy6).2 hx hx6 hb hb2
    · rw [nm_up_ne (by omega)]
      by_cases h2 : m = x
      · rw [h2, nm_up_eq]; exact nm_setb_in (o71 x hx hx6).1 (o71 x hx hx6).2 hy hy6 hb hb2
      · rw [nm_up_ne (by omega)]; exact o71 m a c
  · rw [lo 1 (by omega)] at c; rw [lo _ (by omega), lo _ (by omega), lo _ (by omega)]; exact oh i a c
theorem nmp_5 {d : Nat} {x y b : Int} {X : nm_X} {M : am_M} {Q : List am_V → am_M → Prop} (hd : 2 ≤ d) (hC : nm_C M X) (hQ : nm_KC (sp_5 X x y b).1 [(0, (sp_5 X x y b).2)] M Q) : am_CL d 5 [(2, 0), (0, x), (0, y), (0, b)] M Q := by
  have hL := nm_C_L hC
  have hC0 := hC
  obtain ⟨c1, c2, c3, c4, c5, c6, c7, c8, c9, c10, c11, c12⟩ := hC
  obtain ⟨-, hS, hO, hX⟩ := c1
  have s0 := nm_s0 hS
  have o0 := hO.1
  have R1 : (x = y ∨ b < 0 ∨ 1 < b) → 0 < d ∧ am_CL (d - 1) 43 [(2, 0), (0, (-1))] M (fun r M' => am_WP d am_c5 19 [(2, 0), (0, x), (0, y), (0, b), (9, 0)] (r ++ []) M' Q) := by
    intro h
    unfold sp_5 at hQ; rw [if_pos h] at hQ
    exact ⟨by omega, nmp_ref (k := 5) (by decide) hC0 (fun M' L q => h_5_19 L q) hQ⟩
  refine h_5_0 hL ⟨fun h => R1 (.inl h), fun h1 => ⟨fun h => R1 (by omega), fun h2 => ⟨fun h3 => ⟨by omega, ?_⟩, fun h => R1 (by omega)⟩⟩⟩
  unfold sp_5 at hQ
  rw [if_neg (by omega)] at hQ
  have R2 : (x < 0 ∨ nx_S X 0 ≤ x ∨ y < 0 ∨ nx_S X 0 ≤ y) → 0 < d ∧ am_CL (d - 1) 43 [(2, 0), (0, (-2))] M (fun r M' => am_WP d am_c5 42 [(2, 0), (0, x), (0, y), (0, b), (9, 0)] (r ++ []) M' Q) := by
    intro h
    rw [if_pos h] at hQ
    exact ⟨by omega, nmp_ref (k := 5) (by decide) hC0 (fun M' L q => h_5_42 L q) hQ⟩
  refine nmc_46 hL (fun a0 a1 => ?_) (fun a0 => ?_)
  · rw [s0] at a1
    refine h_5_25 hL ⟨fun h => absurd h (by decide), fun _ => ⟨by omega, nmc_46 hL (fun b0 b1 => ?_) (fun b0 => ?_)⟩⟩
    · rw [s0] at b1
      refine h_5_33 hL ⟨fun _ => ⟨a0, by omega, by omega, ?_⟩, fun h => absurd h (by decide)⟩
      rw [nm_scrack hS a0 (by omega)]
      have oc := hO.2.2.2.2.2.2.2.2.2.2.1
      rw [nm_bit_and (oc x a0 (by omega)).1 (oc x a0 (by omega)).2 b0 (by omega)]
      refine nmc_118 hL hS hO a0 (by omega) b0 (by omega) h1 (by omega) (by omega) (fun M1 F1 S1 => ?_)
      have hL1 := nm_Lay_fr hL F1 (by decide +kernel)
      rw [if_neg (by omega)] at hQ
      have C1 : nm_C M1 (ns_S X (nm_crS (nx_S X) x y b)) := ⟨⟨hL1, S1, nm_okS_cr hO a0 (by omega) b0 (by omega) (by omega) (by omega), nm_CX_fr (show nm_CX M 1 (nm_crS (nx_S X) x y b) (nx_D X) from fun kq ka kb => hX kq ka (by have e : (nm_crS (nx_S X) x y b) 2 = nx_S X 2 := (by unfold nm_crS; rw [nm_up_ne (by omega), nm_up_ne (by omega)]); rw [e] at kb; exact kb)) (by decide) hL F1 (by decide +kernel) (by decide +kernel)⟩, nm_CW_fr c2 hL (by decide) F1 (by decide +kernel), nm_TX_fr c3 (by decide) hL F1 (by decide +kernel), nm_TX_fr c4 (by decide) hL F1 (by decide +kernel), nm_TX_fr c5 (by decide) hL F1 (by decide +kernel), ⟨(nm_gt_frn F1 hL (by decide) (by decide +kernel)).trans c6.1, fun k => nm_CI_fr (c6.2 k) hL (by decide) (by decide) F1 (by decide +kernel) (by decide +kernel) (by decide +kernel) (by decide +kernel)⟩, ⟨(nm_gt_frn F1 hL (by decide) (by decide +kernel)).trans c7.1, fun k => nm_CI_fr (c7.2 k) hL (by decide) (by decide) F1 (by decide +kernel) (by decide +kernel) (by decide +kernel) (by decide +kernel)⟩, nm_CU_fr (.inl rfl) c8 hL F1 (by decide +kernel), nm_CUp_fr c9 hL (by decide) F1 (by decide +kernel), nm_CP_fr c10 hL F1 (by decide +kernel) (by decide +kernel), nm_CR_fr c11 hL F1 (by decide +kernel), c12.imp id (fun e => nm_CW_fr e hL (by decide) F1 (by decide +kernel))⟩
      refine h_5_68 hL1 ⟨by omega, nmx_44 C1 (fun M3 F3 C3 => h_5_74 (nm_C_L C3) (hQ M3 (nm_cFF F1 F3 (by decide +kernel) (by decide) (by decide)) C3))⟩
    · rw [s0] at b0
      exact h_5_33 hL ⟨fun h => absurd rfl h, fun _ => R2 (by omega)⟩
  · rw [s0] at a0
    exact h_5_25 hL ⟨fun _ => R2 (by omega), fun h => absurd rfl h⟩
/-- part -/
def sp_6 (X : nm_X) (p k : Int) : nm_X × Int := (X, if 0 ≤ p ∧ p < 8 then (if k = 0 then (nx_W X).2.2.2 p else if k = 1 then nx_S X (77 + p) else if k = 2 then nm_pay (nx_S X) (nx_W X) (nm_lwf (nx_S X) (nx_D X)) p else -1) else -1)
theorem nmp_6 {d : Nat} {p k : Int} {X : nm_X} {M : am_M} {Q : List am_V → am_M → Prop} (hd : 6 ≤ d) (hC : nm_C M X) (hok : nm_ok X) (hQ : nm_KC (sp_6 X p k).1 [(0, (sp_6 X p k).2)] M Q) : am_CL d 6 [(2, 0), (0, p), (0, k)] M Q := by
  have hL := nm_C_L hC
  have hC0 := hC
  obtain ⟨c1, c2, c3, c4, c5, c6, c7, c8, c9, c10, c11, c12⟩ := hC
  have hA := c1
  obtain ⟨-, hS, hO, hX⟩ := c1
  have oW : nm_okW (nx_S X 0) (nx_W X) := hok.1.2.2.1
  have q := hQ M nm_cR hC0
  unfold sp_6 at hQ q
  simp only at hQ q
  refine h_6_0 hL ⟨by omega, nmc_48 hL (fun a0 a1 => ?_) (fun a0 => ?_)⟩
  · rw [if_pos ⟨a0, a1⟩] at hQ q
    refine h_6_4 hL ⟨fun _ => ⟨fun h0 => ⟨a0, a1, ?_⟩, fun h0 => ⟨fun h1 => ⟨a0, a1, ?_⟩, fun h1 => ⟨fun h2 => ⟨by omega, nmc_123 (by omega) hL hS hO hX (fun t ht => h_6_77 hL ⟨by omega, nmc_60 (by omega) hA (by decide) c2 oW ht (by omega) (fun M1 F1 => h_6_81 (nm_Lay_fr hL F1 (by decide +kernel)) ?_)⟩)⟩, fun h2 => ?_⟩⟩⟩, fun h => absurd h (by decide)⟩
    · rw [if_pos h0] at q; rw [show am_gt M 14 p = _ from c2.2.2.2.2.2 p a0 a1]; exact q
    · rw [if_neg h0, if_pos h1] at q; rw [nm_sclock hS a0 a1]; exact q
    · rw [if_neg h0, if_neg h1, if_pos h2] at hQ
      exact hQ M1 (nm_cF F1 (by decide +kernel)) (nm_C_fr hC0 F1 (by decide +kernel))
    · rw [if_neg h0, if_neg h1, if_neg h2] at q; exact q
  · rw [if_neg (by omega)] at q
    exact h_6_4 hL ⟨fun h => absurd rfl h, fun _ => q⟩
/-- clock -/
def sp_7 (X : nm_X) (p n : Int) : nm_X × Int := if p < 0 ∨ 8 ≤ p ∨ n < 0 ∨ 3 < n then (nx_rf X (-1), -1) else (nx_fn (ns_S X (nm_up (nx_S X) (77 + p) n)), nx_S X (77 + p))
theorem nm_okS_up {S : Int → Int} {j v : Int} (hO : nm_okS S) (h0 : j = 1 → v = 0) (h1 : j = 3 → -1 ≤ v ∧ v < S 2) (h2 : j = 5 → 0 ≤ v ∧ v ≤ 10) (h3 : j = 6 → 0 ≤ v ∧ v ≤ 9) (h4 : j = 7 → 1 ≤ v ∧ v ≤ 8) (h5 : 77 ≤ j → j < 85 → 0 ≤ v ∧ v ≤ 3) (h6 : j = 1 ∨ j = 3 ∨ (5 ≤ j ∧ j ≤ 7) ∨ (77 ≤ j ∧ j < 85)) : nm_okS (nm_up S j v) := by
  obtain ⟨o0, o1, o2, o3, o5, o6, o7, o29, o35, o65, o71, o77, oh⟩ := hO
  have e0 : nm_up S j v 0 = S 0 := nm_up_ne (by omega)
  have e2 : nm_up S j v 2 = S 2 := nm_up_ne (by omega)
  refine ⟨by rw [e0]; exact o0, ?_, by rw [e2]; exact o2, ?_, ?_, ?_, ?_, fun m a c => ?_, fun k a c => by rw [nm_up_ne (by omega)]; exact o35 k a c, fun m a c => by rw [nm_up_ne (by omega)]; exact o65 m a c, fun m a c => by rw [nm_up_ne (by omega)]; exact o71 m a c, fun p a c => ?_, fun i a c => ?_⟩
  · by_cases h : j = 1
    · subst h; rw [nm_up_eq]; have := h0 rfl; omega
    · rw [nm_up_ne (by omega)]; exact o1
  · rw [e2]
    by_cases h : j = 3
    · subst h; rw [nm_up_eq]; exact h1 rfl
    · rw [nm_up_ne (by omega)]; exact o3
  · by_cases h : j = 5
    · subst h; rw [nm_up_eq]; exact h2 rfl
    · rw [nm_up_ne (by omega)]; exact o5
  · by_cases h : j = 6
    · subst h; rw [nm_up_eq]; exact h3 rfl
    · rw [nm_up_ne (by omega)]; exact o6
  · by_cases h : j = 7
    · subst h; rw [nm_up_eq]; exact h4 rfl
    · rw [nm_up_ne (by omega)]; exact o7
  · rw [e0] at c; rw [nm_up_ne (by omega)]; exact o29 m a c
  · by_cases h : j = 77 + p
    · subst h; rw [nm_up_eq]; exact h5 (by omega) (by omega)
    · rw [nm_up_ne (by omega)]; exact o77 p a c
  · have hi : i < S 1 := by
      by_cases h : j = 1
      · subst h; rw [nm_up_eq] at c; have := h0 rfl; omega
      · rw [nm_up_ne (by omega)] at c; exact c
    rw [nm_up_ne (by omega), nm_up_ne (by omega), nm_up_ne (by omega)]; exact oh i a hi
theorem nmp_7 {d : Nat} {p n : Int} {X : nm_X} {M : am_M} {Q : List am_V → am_M → Prop} (hd : 2 ≤ d) (hC : nm_C M X) (hQ : nm_KC (sp_7 X p n).1 [(0, (sp_7 X p n).2)] M Q) : am_CL d 7 [(2, 0), (0, p), (0, n)] M Q := by
  have hL := nm_C_L hC
  have hC0 := hC
  obtain ⟨c1, c2, c3, c4, c5, c6, c7, c8, c9, c10, c11, c12⟩ := hC
  obtain ⟨-, hS, hO, hX⟩ := c1
  have R1 : (p < 0 ∨ 8 ≤ p ∨ n < 0 ∨ 3 < n) → 0 < d ∧ am_CL (d - 1) 43 [(2, 0), (0, (-1))] M (fun r M' => am_WP d am_c7 21 [(2, 0), (0, p), (0, n), (9, 0)] (r ++ []) M' Q) := by
    intro h
    unfold sp_7 at hQ; rw [if_pos h] at hQ
    exact ⟨by omega, nmp_ref (k := 7) (by decide) hC0 (fun M' L q => h_7_21 L q) hQ⟩
  refine h_7_0 hL ⟨by omega, nmc_48 hL (fun a0 a1 => ?_) (fun a0 => h_7_4 hL ⟨fun _ => R1 (by omega), fun h => absurd rfl h⟩)⟩
  refine h_7_4 hL ⟨fun h => absurd h (by decide), fun _ => ⟨fun h => R1 (by omega), fun h1 => ⟨fun h2 => ⟨a0, a1, by omega, ?_⟩, fun h => R1 (by omega)⟩⟩⟩
  unfold sp_7 at hQ; rw [if_neg (by omega)] at hQ
  rw [nm_sclock hS a0 a1]
  have F1 : nm_Fr [(6, 0, 8)] M (am_st M 6 p n) := nm_Fr_st (nm_Fg_refl _ _) (nm_in_c (lo := 0) (hi := 8) (by decide) a0 a1)
  have S1 : nm_CS (am_st M 6 p n) 1 (nm_up (nx_S X) (77 + p) n) := nm_CS_up hS (nm_cE (by omega))
  have hL1 := nm_Lay_fr hL F1 (by decide +kernel)
  have C1 : nm_C (am_st M 6 p n) (ns_S X (nm_up (nx_S X) (77 + p) n)) := ⟨⟨hL1, S1, nm_okS_up hO (by omega) (by omega) (by omega) (by omega) (by omega) (by omega) (by omega), nm_CX_fr (show nm_CX M 1 (nm_up (nx_S X) (77 + p) n) (nx_D X) from fun kq ka kb => hX kq ka (by have e : (nm_up (nx_S X) (77 + p) n) 2 = nx_S X 2 := (nm_up_ne (by omega)); rw [e] at kb; exact kb)) (by decide) hL F1 (by decide +kernel) (by decide +kernel)⟩, nm_CW_fr c2 hL (by decide) F1 (by decide +kernel), nm_TX_fr c3 (by decide) hL F1 (by decide +kernel), nm_TX_fr c4 (by decide) hL F1 (by decide +kernel), nm_TX_fr c5 (by decide) hL F1 (by decide +kernel), ⟨(nm_gt_frn F1 hL (by decide) (by decide +kernel)).trans c6.1, fun k => nm_CI_fr (c6.2 k) hL (by decide) (by decide) F1 (by decide +kernel) (by decide +kernel) (by decide +kernel) (by decide +kernel)⟩, ⟨(nm_gt_frn F1 hL (by decide) (by decide +kernel)).trans c7.1, fun k => nm_CI_fr (c7.2 k) hL (by decide) (by decide) F1 (by decide +kernel) (by decide +kernel) (by decide +kernel) (by decide +kernel)⟩, nm_CU_fr (.inl rfl) c8 hL F1 (by decide +kernel), nm_CUp_fr c9 hL (by decide) F1 (by decide +kernel), nm_CP_fr c10 hL F1 (by decide +kernel) (by decide +kernel), nm_CR_fr c11 hL F1 (by decide +kernel), c12.imp id (fun e => nm_CW_fr e hL (by decide) F1 (by decide +kernel))⟩
  exact nmx_44 C1 (fun M3 F3 C3 => h_7_47 (nm_C_L C3) (hQ M3 (nm_cFF F1 F3 (by decide +kernel) (by decide) (by decide)) C3))
/-- end -/
def sp_10 (X : nm_X) (n : Int) : nm_X × Int := if n < 0 ∨ nx_L X < n then (X, -1) else (ns_L X n, n)
theorem nmp_10 {d : Nat} {n : Int} {X : nm_X} {M : am_M} {Q : List am_V → am_M → Prop} (hC : nm_C M X) (hQ : nm_KC (sp_10 X n).1 [(0, (sp_10 X n).2)] M Q) : am_CL d 10 [(2, 0), (0, n)] M Q := by
  have hL := nm_C_L hC
  have hC0 := hC
  obtain ⟨c1, c2, c3, c4, c5, c6, c7, c8, c9, c10, c11, c12⟩ := hC
  unfold sp_10 at hQ
  refine h_10_0 hL ?_
  rw [c10.1]
  refine ⟨fun h => ?_, fun h => ⟨fun h1 => ?_, fun h1 => ?_⟩⟩
  · rw [if_pos (by omega)] at hQ; exact hQ M nm_cR hC0
  · rw [if_neg (by omega)] at hQ
    have F1 : nm_Fr [(30, 1, 2)] M (am_st M 30 1 n) := nm_Fr_st (nm_Fg_refl _ _) (by decide)
    have C1 : nm_C (am_st M 30 1 n) (ns_L X n) := ⟨nm_CA_fr c1 F1 (by decide +kernel) (by decide +kernel) (by decide +kernel) (by decide +kernel), nm_CW_fr c2 hL (by decide) F1 (by decide +kernel), nm_TX_fr c3 (by decide) hL F1 (by decide +kernel), nm_TX_fr c4 (by decide) hL F1 (by decide +kernel), nm_TX_fr c5 (by decide) hL F1 (by decide +kernel), ⟨(nm_gt_frn F1 hL (by decide) (by decide +kernel)).trans c6.1, fun k => nm_CI_fr (c6.2 k) hL (by decide) (by decide) F1 (by decide +kernel) (by decide +kernel) (by decide +kernel) (by decide +kernel)⟩, ⟨(nm_gt_frn F1 hL (by decide) (by decide +kernel)).trans c7.1, fun k => nm_CI_fr (c7.2 k) hL (by decide) (by decide) F1 (by decide +kernel) (by decide +kernel) (by decide +kernel) (by decide +kernel)⟩, nm_CU_fr (.inl rfl) c8 hL F1 (by decide +kernel), nm_CUp_fr c9 hL (by decide) F1 (by decide +kernel), ⟨nm_st_eq, fun i a b => (nm_st_ne (by decide)).trans (c10.2 i a (by have b1 : i < n := b; show i < nx_L X; omega))⟩, nm_CR_fr c11 hL F1 (by decide +kernel), c12.imp id (fun e => nm_CW_fr e hL (by decide) F1 (by decide +kernel))⟩
    exact hQ _ (nm_cF F1 (by decide +kernel)) C1
  · rw [if_pos (by omega)] at hQ; exact hQ M nm_cR hC0
/-- force -/
def sp_17 (X : nm_X) (l : Int) : nm_X × Int := if l = -1 ∨ (0 ≤ l ∧ l < nx_S X 2) then (nx_fn (ns_S X (nm_up (nx_S X) 3 l)), nx_S X 3) else (nx_rf X (-2), -2)
theorem nmp_17 {d : Nat} {l : Int} {X : nm_X} {M : am_M} {Q : List am_V → am_M → Prop} (hd : 2 ≤ d) (hC : nm_C M X) (hQ : nm_KC (sp_17 X l).1 [(0, (sp_17 X l).2)] M Q) : am_CL d 17 [(2, 0), (0, l)] M Q := by
  have hL := nm_C_L hC
  have hC0 := hC
  obtain ⟨c1, c2, c3, c4, c5, c6, c7, c8, c9, c10, c11, c12⟩ := hC
  obtain ⟨-, hS, hO, hX⟩ := c1
  have s2 := nm_s2 hS
  have o2 := hO.2.2.1
  unfold sp_17 at hQ
  have R1 : (l = -1 ∨ (0 ≤ l ∧ l < nx_S X 2)) → 0 < d ∧ am_CL (d - 1) 44 [(2, 0), (0, am_gt M 1 15)] (am_st M 1 15 l) (fun r M' => am_WP d am_c17 41 [(2, 0), (0, l), (0, am_gt M 1 15)] (r ++ []) M' Q) := by
    intro h
    rw [if_pos h] at hQ
    rw [nm_s3 hS]
    have F1 : nm_Fr [(1, 15, 16)] M (am_st M 1 15 l) := nm_Fr_st (nm_Fg_refl _ _) (by decide)
    have S1 : nm_CS (am_st M 1 15 l) 1 (nm_up (nx_S X) 3 l) := nm_CS_up hS nm_c3
    have C1 : nm_C (am_st M 1 15 l) (ns_S X (nm_up (nx_S X) 3 l)) := ⟨⟨nm_Lay_fr hL F1 (by decide +kernel), S1, nm_okS_up hO (by omega) (by omega) (by omega) (by omega) (by omega) (by omega) (by omega), nm_CX_fr (show nm_CX M 1 (nm_up (nx_S X) 3 l) (nx_D X) from fun kq ka kb => hX kq ka (by have e : (nm_up (nx_S X) 3 l) 2 = nx_S X 2 := (nm_up_ne (by omega)); rw [e] at kb; exact kb)) (by decide) hL F1 (by decide +kernel) (by decide +kernel)⟩, nm_CW_fr c2 hL (by decide) F1 (by decide +kernel), nm_TX_fr c3 (by decide) hL F1 (by decide +kernel), nm_TX_fr c4 (by decide) hL F1 (by decide +kernel), nm_TX_fr c5 (by decide) hL F1 (by decide +kernel), ⟨(nm_gt_frn F1 hL (by decide) (by decide +kernel)).trans c6.1, fun k => nm_CI_fr (c6.2 k) hL (by decide) (by decide) F1 (by decide +kernel) (by decide +kernel) (by decide +kernel) (by decide +kernel)⟩, ⟨(nm_gt_frn F1 hL (by decide) (by decide +kernel)).trans c7.1, fun k => nm_CI_fr (c7.2 k) hL (by decide) (by decide) F1 (by decide +kernel) (by decide +kernel) (by decide +kernel) (by decide +kernel)⟩, nm_CU_fr (.inl rfl) c8 hL F1 (by decide +kernel), nm_CUp_fr c9 hL (by decide) F1 (by decide +kernel), nm_CP_fr c10 hL F1 (by decide +kernel) (by decide +kernel), nm_CR_fr c11 hL F1 (by decide +kernel), c12.imp id (fun e => nm_CW_fr e hL (by decide) F1 (by decide +kernel))⟩
    exact ⟨by omega, nmx_44 C1 (fun M3 F3 C3 => h_17_41 (nm_C_L C3) (hQ M3 (nm_cFF F1 F3 (by decide +kernel) (by decide) (by decide)) C3))⟩
  refine h_17_0 hL ⟨fun h => R1 (.inl h), fun h => ⟨by omega, nmc_47 hL (fun a0 a1 => h_17_10 hL ⟨fun _ => R1 (by omega), fun h => absurd h (by decide)⟩) (fun a0 => h_17_10 hL ⟨fun h => absurd rfl h, fun _ => ?_⟩)⟩⟩
  rw [if_neg (by omega)] at hQ
  exact ⟨by omega, nmp_ref (k := 17) (by decide) hC0 (fun M' L q => h_17_19 L q) hQ⟩
/-- hear -/
def nm_hrS (S : Int → Int) (x y z : Int) : Int → Int := nm_up (nm_up (nm_up (nm_up S (85 + 3 * S 1) x) (86 + 3 * S 1) y) (87 + 3 * S 1) z) 1 (S 1 + 1)
def sp_26 (X : nm_X) (h p m : Int) : nm_X × Int := if h < 1 ∨ 8 < h ∨ p < 0 ∨ 8 ≤ p ∨ m < 0 ∨ 1 < m then (nx_rf X (-1), -1) else if 8 ≤ nx_S X 1 then (nx_rf X (-5), -5) else (nx_fn (ns_S X (nm_hrS (nx_S X) h p m)), nx_S X 1 + 1)
theorem nm_okS_hr {S : Int → Int} {h p m : Int} (hO : nm_okS S) (h8 : S 1 < 8) (a : 1 ≤ h ∧ h ≤ 8) (b : 0 ≤ p ∧ p ≤ 7) (c : 0 ≤ m ∧ m ≤ 1) : nm_okS (nm_hrS S h p m) := by
  obtain ⟨o0, o1, o2, o3, o5, o6, o7, o29, o35, o65, o71, o77, oh⟩ := hO
  have lo : ∀ j, (j < 85 ∧ j ≠ 1) → nm_hrS S h p m j = S j := fun j h => by unfold nm_hrS; rw [nm_up_ne (by omega), nm_up_ne (by omega), nm_up_ne (by omega), nm_up_ne (by omega)]
  have e1 : nm_hrS S h p m 1 = S 1 + 1 := nm_up_eq _ _ _
  refine ⟨by rw [lo 0 (by omega)]; exact o0, by rw [e1]; omega, by rw [lo 2 (by omega)]; exact o2, by rw [lo 3 (by omega), lo 2 (by omega)]; exact o3, by rw [lo 5 (by omega)]; exact o5, by rw [lo 6 (by omega)]; exact o6, by rw [lo 7 (by omega)]; exact o7, fun m a c => ?_, fun k a c => by rw [lo _ (by omega)]; exact o35 k a c, fun m a c => by rw [lo _ (by omega)]; exact o65 m a c, fun m a c => by rw [lo _ (by omega)]; exact o71 m a c, fun p a c => by rw [lo _ (by omega)]; exact o77 p a c, fun i x y => ?_⟩
  · rw [lo 0 (by omega)] at c; rw [lo _ (by omega)]; exact o29 m a c
  · rw [e1] at y
    unfold nm_hrS
    by_cases hi : i = S 1
    · rw [hi, nm_up_ne (by omega), nm_up_ne (by omega), nm_up_ne (by omega), nm_up_eq, nm_up_ne (by omega), nm_up_ne (by omega), nm_up_eq, nm_up_ne (by omega), nm_up_eq]
      exact ⟨a, b, c⟩
    · rw [nm_up_ne (by omega), nm_up_ne (by omega), nm_up_ne (by omega), nm_up_ne (by omega), nm_up_ne (by omega), nm_up_ne (by omega), nm_up_ne (by omega), nm_up_ne (by omega), nm_up_ne (by omega), nm_up_ne (by omega), nm_up_ne (by omega), nm_up_ne (by omega)]
      exact oh i x (by omega)
theorem nmp_26 {d : Nat} {h p m : Int} {X : nm_X} {M : am_M} {Q : List am_V → am_M → Prop} (hd : 2 ≤ d) (hC : nm_C M X) (hQ : nm_KC (sp_26 X h p m).1 [(0, (sp_26 X h p m).2)] M Q) : am_CL d 26 [(2, 0), (0, h), (0, p), (0, m)] M Q := by
  have hL := nm_C_L hC
  have hC0 := hC
  obtain ⟨c1, c2, c3, c4, c5, c6, c7, c8, c9, c10, c11, c12⟩ := hC
  obtain ⟨-, hS, hO, hX⟩ := c1
  have s1 := nm_s1 hS
  have o1 := hO.2.1
  have R1 : (h < 1 ∨ 8 < h ∨ p < 0 ∨ 8 ≤ p ∨ m < 0 ∨ 1 < m) → 0 < d ∧ am_CL (d - 1) 43 [(2, 0), (0, (-1))] M (fun r M' => am_WP d am_c26 28 [(2, 0), (0, h), (0, p), (0, m)] (r ++ []) M' Q) := by
    intro h
    unfold sp_26 at hQ; rw [if_pos h] at hQ
    exact ⟨by omega, nmp_ref (k := 26) (by decide) hC0 (fun M' L q => h_26_28 L q) hQ⟩
  refine h_26_0 hL ⟨by omega, nmc_49 hL (fun a0 a1 => ?_) (fun a0 => h_26_4 hL ⟨fun _ => R1 (by omega), fun h => absurd rfl h⟩)⟩
  refine h_26_4 hL ⟨fun h => absurd h (by decide), fun _ => ⟨by omega, nmc_48 hL (fun b0 b1 => ?_) (fun b0 => h_26_11 hL ⟨fun _ => R1 (by omega), fun h => absurd rfl h⟩)⟩⟩
  refine h_26_11 hL ⟨fun h => absurd h (by decide), fun _ => ⟨fun h => R1 (by omega), fun h1 => ⟨fun h2 => ⟨fun h3 => ⟨by omega, ?_⟩, fun h3 => ?_⟩, fun h => R1 (by omega)⟩⟩⟩
  · unfold sp_26 at hQ; rw [if_neg (by omega), if_neg (by omega)] at hQ
    refine nmc_117 hL hS o1.1 (by omega) (fun M1 F1 S1 => ?_)
    have hL1 := nm_Lay_fr hL F1 (by decide +kernel)
    have C1 : nm_C M1 (ns_S X (nm_hrS (nx_S X) h p m)) := ⟨⟨hL1, S1, nm_okS_hr hO (by omega) (by omega) (by omega) (by omega), nm_CX_fr (show nm_CX M 1 (nm_hrS (nx_S X) h p m) (nx_D X) from fun kq ka kb => hX kq ka (by have e : (nm_hrS (nx_S X) h p m) 2 = nx_S X 2 := (by unfold nm_hrS; rw [nm_up_ne (by omega), nm_up_ne (by omega), nm_up_ne (by omega), nm_up_ne (by omega)]); rw [e] at kb; exact kb)) (by decide) hL F1 (by decide +kernel) (by decide +kernel)⟩, nm_CW_fr c2 hL (by decide) F1 (by decide +kernel), nm_TX_fr c3 (by decide) hL F1 (by decide +kernel), nm_TX_fr c4 (by decide) hL F1 (by decide +kernel), nm_TX_fr c5 (by decide) hL F1 (by decide +kernel), ⟨(nm_gt_frn F1 hL (by decide) (by decide +kernel)).trans c6.1, fun k => nm_CI_fr (c6.2 k) hL (by decide) (by decide) F1 (by decide +kernel) (by decide +kernel) (by decide +kernel) (by decide +kernel)⟩, ⟨(nm_gt_frn F1 hL (by decide) (by decide +kernel)).trans c7.1, fun k => nm_CI_fr (c7.2 k) hL (by decide) (by decide) F1 (by decide +kernel) (by decide +kernel) (by decide +kernel) (by decide +kernel)⟩, nm_CU_fr (.inl rfl) c8 hL F1 (by decide +kernel), nm_CUp_fr c9 hL (by decide) F1 (by decide +kernel), nm_CP_fr c10 hL F1 (by decide +kernel) (by decide +kernel), nm_CR_fr c11 hL F1 (by decide +kernel), c12.imp id (fun e => nm_CW_fr e hL (by decide) F1 (by decide +kernel))⟩
    refine h_26_58 hL1 ?_
    rw [nm_s1 S1, nm_up_eq]
    exact ⟨by omega, nmx_44 C1 (fun M3 F3 C3 => h_26_69 (nm_C_L C3) (hQ M3 (nm_cFF F1 F3 (by decide +kernel) (by decide) (by decide)) C3))⟩
  · unfold sp_26 at hQ; rw [if_neg (by omega), if_pos (by omega)] at hQ
    exact ⟨by omega, nmp_ref (k := 26) (by decide) hC0 (fun M' L q => h_26_47 L q) hQ⟩
/-- forget -/
def sp_27 (X : nm_X) : nm_X × Int := (ns_S X (nm_up (nx_S X) 1 0), nx_S X 1)
theorem nmp_27 {d : Nat} {X : nm_X} {M : am_M} {Q : List am_V → am_M → Prop} (hC : nm_C M X) (hQ : nm_KC (sp_27 X).1 [(0, (sp_27 X).2)] M Q) : am_CL d 27 [(2, 0)] M Q := by
  have hL := nm_C_L hC
  obtain ⟨c1, c2, c3, c4, c5, c6, c7, c8, c9, c10, c11, c12⟩ := hC
  obtain ⟨-, hS, hO, hX⟩ := c1
  refine h_27_0 hL ?_
  rw [nm_s1 hS]
  have F1 : nm_Fr [(1, 6, 7)] M (am_st M 1 6 0) := nm_Fr_st (nm_Fg_refl _ _) (by decide)
  have S1 : nm_CS (am_st M 1 6 0) 1 (nm_up (nx_S X) 1 0) := nm_CS_up hS nm_c1
  have C1 : nm_C (am_st M 1 6 0) (ns_S X (nm_up (nx_S X) 1 0)) := ⟨⟨nm_Lay_fr hL F1 (by decide +kernel), S1, nm_okS_up hO (by omega) (by omega) (by omega) (by omega) (by omega) (by omega) (by omega), nm_CX_fr (show nm_CX M 1 (nm_up (nx_S X) 1 0) (nx_D X) from fun kq ka kb => hX kq ka (by have e : (nm_up (nx_S X) 1 0) 2 = nx_S X 2 := (nm_up_ne (by omega)); rw [e] at kb; exact kb)) (by decide) hL F1 (by decide +kernel) (by decide +kernel)⟩, nm_CW_fr c2 hL (by decide) F1 (by decide +kernel), nm_TX_fr c3 (by decide) hL F1 (by decide +kernel), nm_TX_fr c4 (by decide) hL F1 (by decide +kernel), nm_TX_fr c5 (by decide) hL F1 (by decide +kernel), ⟨(nm_gt_frn F1 hL (by decide) (by decide +kernel)).trans c6.1, fun k => nm_CI_fr (c6.2 k) hL (by decide) (by decide) F1 (by decide +kernel) (by decide +kernel) (by decide +kernel) (by decide +kernel)⟩, ⟨(nm_gt_frn F1 hL (by decide) (by decide +kernel)).trans c7.1, fun k => nm_CI_fr (c7.2 k) hL (by decide) (by decide) F1 (by decide +kernel) (by decide +kernel) (by decide +kernel) (by decide +kernel)⟩, nm_CU_fr (.inl rfl) c8 hL F1 (by decide +kernel), nm_CUp_fr c9 hL (by decide) F1 (by decide +kernel), nm_CP_fr c10 hL F1 (by decide +kernel) (by decide +kernel), nm_CR_fr c11 hL F1 (by decide +kernel), c12.imp id (fun e => nm_CW_fr e hL (by decide) F1 (by decide +kernel))⟩
  exact hQ _ (nm_cF F1 (by decide +kernel)) C1
/-- terms -/
def sp_8 (X : nm_X) (k v : Int) : nm_X × Int := if 0 ≤ v ∧ ((k = 0 ∧ v ≤ 999) ∨ (k = 1 ∧ v ≤ 10) ∨ (k = 2 ∧ v ≤ 9) ∨ (k = 3 ∧ 1 ≤ v ∧ v ≤ 8)) then (nx_fn (ns_U (ns_W (ns_S X (if k = 0 then nx_S X else nm_up (nx_S X) (4 + k) v)) (if k = 0 then v else (nx_W X).1, (nx_W X).2)) []), if k = 0 then (nx_W X).1 else nx_S X (4 + k)) else (nx_rf X (-1), -1)
theorem nm_okS_term {S : Int → Int} {k v : Int} (hO : nm_okS S) (ht : nm_trm k v) : nm_okS (if k = 0 then S else nm_up S (4 + k) v) := by
  unfold nm_trm at ht
  by_cases h : k = 0
  · rw [if_pos h]; exact hO
  · rw [if_neg h]; exact nm_okS_up hO (by omega) (by omega) (by omega) (by omega) (by omega) (by omega) (by omega)
theorem nm_ifup {S : Int → Int} {k v j : Int} (h : j ≠ 4 + k) : (if k = 0 then S else nm_up S (4 + k) v) j = S j := by
  by_cases hk : k = 0
  · rw [if_pos hk]
  · rw [if_neg hk, nm_up_ne h]
theorem nmp_8 {d : Nat} {k v : Int} {X : nm_X} {M : am_M} {Q : List am_V → am_M → Prop} (hd : 2 ≤ d) (hC : nm_C M X) (hok : nm_ok X) (hQ : nm_KC (sp_8 X k v).1 [(0, (sp_8 X k v).2)] M Q) : am_CL d 8 [(2, 0), (0, k), (0, v)] M Q := by
  have hL := nm_C_L hC
  have hC0 := hC
  obtain ⟨c1, c2, c3, c4, c5, c6, c7, c8, c9, c10, c11, c12⟩ := hC
  obtain ⟨-, hS, hO, hX⟩ := c1
  have hn0 : 0 ≤ (nx_W X).1 := hok.1.2.2.1.1
  have o5 := hO.2.2.2.2.1
  have o6 := hO.2.2.2.2.2.1
  have o7 := hO.2.2.2.2.2.2.1
  have R1 : ∀ s0 : Int, ¬ nm_trm k v → 0 < d ∧ am_CL (d - 1) 43 [(2, 0), (0, (-1))] M (fun r M' => am_WP d am_c8 31 [(2, 0), (0, k), (0, v), (0, s0)] (r ++ []) M' Q) := by
    intro s0 h
    unfold nm_trm at h
    unfold sp_8 at hQ; rw [if_neg h] at hQ
    exact ⟨by omega, nmp_ref (k := 8) (by decide) hC0 (fun M' L q => h_8_31 L q) hQ⟩
  refine h_8_0 hL ⟨by omega, nmc_120 hL hS c2 ?_⟩
  refine h_8_8 hL ⟨fun h => R1 _ ?_, fun h => ⟨by omega, nmc_121 hL hS c2 (fun ht => h_8_23 hL ⟨fun h => absurd rfl h, fun _ => R1 _ ht⟩) (fun M1 ht F1 S1 W1 => ?_)⟩⟩
  · intro ht
    unfold nm_trm at ht
    by_cases h0 : k = 0
    · rw [if_pos h0] at h; omega
    · rw [if_neg h0, if_pos (by omega)] at h
      have hk : k = 1 ∨ k = 2 ∨ k = 3 := by omega
      rcases hk with rfl | rfl | rfl
      · have : nx_S X 5 = -1 := h
        omega
      · have : nx_S X 6 = -1 := h
        omega
      · have : nx_S X 7 = -1 := h
        omega
  · have hL1 := nm_Lay_fr hL F1 (by decide +kernel)
    have ht1 := ht
    unfold nm_trm at ht1
    unfold sp_8 at hQ; rw [if_pos ht1] at hQ
    have F2 : nm_Fr (nm_Sg 1 ++ nm_Wg 11 ++ [(34, 0, 1)]) M (am_st M1 34 0 0) := nm_Fr_st (nm_Fr_appl F1) (by decide +kernel)
    have F2' : nm_Fr [(34, 0, 1)] M1 (am_st M1 34 0 0) := nm_Fr_st (nm_Fg_refl _ _) (by decide)
    have hL2 := nm_Lay_fr hL1 F2' (by decide +kernel)
    have C2 : nm_C (am_st M1 34 0 0) (ns_U (ns_W (ns_S X (if k = 0 then nx_S X else nm_up (nx_S X) (4 + k) v)) (if k = 0 then v else (nx_W X).1, (nx_W X).2)) []) :=
      ⟨⟨hL2, nm_CS_fr S1 hL1 (by decide) F2' (by decide +kernel), nm_okS_term hO ht, nm_CX_fr (show nm_CX M 1 (if k = 0 then nx_S X else nm_up (nx_S X) (4 + k) v) (nx_D X) from fun kq ka kb => hX kq ka (by have e : (if k = 0 then nx_S X else nm_up (nx_S X) (4 + k) v) 2 = nx_S X 2 := (nm_ifup (by unfold nm_trm at ht; omega)); rw [e] at kb; exact kb)) (by decide) hL F2 (by decide +kernel) (by decide +kernel)⟩, nm_CW_fr W1 hL1 (by decide) F2' (by decide +kernel), nm_TX_fr c3 (by decide) hL F2 (by decide +kernel), nm_TX_fr c4 (by decide) hL F2 (by decide +kernel), nm_TX_fr c5 (by decide) hL F2 (by decide +kernel), ⟨(nm_gt_frn F2 hL (by decide) (by decide +kernel)).trans c6.1, fun k => nm_CI_fr (c6.2 k) hL (by decide) (by decide) F2 (by decide +kernel) (by decide +kernel) (by decide +kernel) (by decide +kernel)⟩, ⟨(nm_gt_frn F2 hL (by decide) (by decide +kernel)).trans c7.1, fun k => nm_CI_fr (c7.2 k) hL (by decide) (by decide) F2 (by decide +kernel) (by decide +kernel) (by decide +kernel) (by decide +kernel)⟩, nm_CU_nil (nm_CUp_fr c8.1 hL (by decide) F2 (by decide +kernel)) nm_st_eq, nm_CUp_fr c9 hL (by decide) F2 (by decide +kernel), nm_CP_fr c10 hL F2 (by decide +kernel) (by decide +kernel), nm_CR_fr c11 hL F2 (by decide +kernel), c12.imp id (fun e => nm_CW_fr e hL (by decide) F2 (by decide +kernel))⟩
    refine h_8_23 hL1 ⟨fun _ => ⟨by omega, nmx_44 C2 (fun M3 F3 C3 => h_8_45 (nm_C_L C3) ?_)⟩, fun h => absurd h (by decide)⟩
    have := hQ M3 (nm_cFF F2 F3 (by decide +kernel) (by decide) (by decide)) C3
    simp only at this ⊢
    by_cases h0 : k = 0
    · rw [if_pos h0] at this ⊢; exact this
    · rw [if_neg h0] at this ⊢; rw [if_pos (by unfold nm_trm at ht; omega)]; exact this
/-- drawn -/
def sp_38 (X : nm_X) (k w : Int) : nm_X × Int := (X, if nx_R X 10 = -1 ∨ k < 0 then -1 else if w = 0 then (if k < 8 then (nx_Y X).2.2.2 k else -1) else if nx_R X 10 ≤ k then -1 else if w = 1 then (nx_Y X).2.2.1 k else if w = 2 then nm_ix (nx_Y X).2.1 k else -1)
theorem nmp_38 {d : Nat} {k w : Int} {X : nm_X} {M : am_M} {Q : List am_V → am_M → Prop} (hd : 2 ≤ d) (hC : nm_C M X) (hok : nm_ok X) (hQ : nm_KC (sp_38 X k w).1 [(0, (sp_38 X k w).2)] M Q) : am_CL d 38 [(2, 0), (0, k), (0, w)] M Q := by
  have hL := nm_C_L hC
  have q := hQ M nm_cR hC
  unfold sp_38 at q
  simp only at q
  obtain ⟨c1, c2, c3, c4, c5, c6, c7, c8, c9, c10, c11, c12⟩ := hC
  have r10 : am_gt M 0 14 = nx_R X 10 := c11.2.2.2.2.2.2.2.2.2
  refine h_38_0 hL ?_
  rw [r10]
  refine ⟨fun h => ?_, fun h => ?_⟩
  · rw [if_pos (.inl h)] at q; exact q
  have hW := c12.resolve_left h
  obtain ⟨w1, w2, w3, w4, w5, w6⟩ := hW
  have r6 := (hok.2.2.2.2.resolve_left h).2.1
  refine ⟨fun h1 => ⟨fun h2 => ⟨fun h3 => ⟨fun h4 => ⟨fun h5 => ?_, fun h5 => ⟨by omega, nmc_137 hL (by decide) ⟨w1, w2, w3, w4, w5, w6⟩ (h_38_76 hL ?_)⟩⟩, fun h4 => ⟨h1, by omega, ?_⟩⟩, fun h3 => ?_⟩, fun h2 => ⟨fun h3 => ?_, fun h3 => ⟨h1, by omega, ?_⟩⟩⟩, fun h1 => ?_⟩
  · rw [if_neg (by omega), if_neg h2, if_neg (by omega), if_neg h4, if_neg h5] at q; exact q
  · rw [if_neg (by omega), if_neg h2, if_neg (by omega), if_neg h4, if_pos (by omega)] at q; exact q
  · rw [if_neg (by omega), if_neg h2, if_neg (by omega), if_pos (by omega)] at q; rw [show am_gt M 182 k = _ from w5 k h1 (by omega)]; exact q
  · rw [if_neg (by omega), if_neg h2, if_pos (by omega)] at q; exact q
  · rw [if_neg (by omega), if_pos (by omega), if_neg (by omega)] at q; exact q
  · rw [if_neg (by omega), if_pos (by omega), if_pos (by omega)] at q; rw [show am_gt M 183 k = _ from w6 k h1 (by omega)]; exact q
  · rw [if_pos (by omega)] at q; exact q
/-- count -/
def sp_41 (X : nm_X) (k : Int) : nm_X × Int := (X, if k = 0 then nx_S X 0 else if k = 1 then ((nx_W X).2.1.length : Int) else if k = 2 then nm_sm (nx_W X).2.2.2 8 else if k = 3 then nx_S X 1 else if k = 4 then nx_S X 2 else if k = 5 then ((nx_U X).length : Int) else if k = 6 then nx_L X else if k = 7 then nx_R X 1 else if k = 8 then nx_R X 2 else if k = 9 then nx_R X 3 else if k = 10 then nx_R X 5 else if k = 11 then nx_R X 6 else if k = 12 then nx_S X 3 else if k = 13 then (nx_W X).1 else if 14 ≤ k ∧ k ≤ 16 then nx_S X (k - 9) else -1)
theorem nmp_41 {d : Nat} {k : Int} {X : nm_X} {M : am_M} {Q : List am_V → am_M → Prop} (hd : 2 ≤ d) (hC : nm_C M X) (hok : nm_ok X) (hQ : nm_KC (sp_41 X k).1 [(0, (sp_41 X k).2)] M Q) : am_CL d 41 [(2, 0), (0, k)] M Q := by
  have hL := nm_C_L hC
  have q := hQ M nm_cR hC
  unfold sp_41 at q
  simp only at q
  have oW : nm_okW (nx_S X 0) (nx_W X) := hok.1.2.2.1
  obtain ⟨c1, c2, c3, c4, c5, c6, c7, c8, c9, c10, c11, c12⟩ := hC
  obtain ⟨-, hS, hO, hX⟩ := c1
  obtain ⟨r0, r1, r2, r3, r5, r6, -⟩ := c11
  have cW := c2
  obtain ⟨w1, w2, w3, w4, w5, w6⟩ := c2
  have a46 : k < 7 ∨ 11 < k → k < 13 ∨ 16 < k → am_WP d am_c41 46 [(2, 0), (0, k)] [] M Q := by
    intro x1 x2
    refine h_41_46 hL ⟨fun e0 => ?_, fun e0 => ⟨fun e1 => ?_, fun e1 => ⟨fun e2 => ⟨by omega, nmc_140 hL (by decide) cW oW.2.2.2.2.2 (h_41_141 hL ?_)⟩, fun e2 => ⟨fun e3 => ?_, fun e3 => ⟨fun e4 => ?_, fun e4 => ⟨fun e5 => ?_, fun e5 => ⟨fun e6 => ?_, fun e6 => ⟨fun h => absurd h (by omega), fun _ => ⟨fun h => absurd h (by omega), fun _ => ⟨fun h => absurd h (by omega), fun _ => ⟨fun h => absurd h (by omega), fun _ => ⟨fun h => absurd h (by omega), fun _ => ⟨fun e12 => ?_, fun e12 => ?_⟩⟩⟩⟩⟩⟩⟩⟩⟩⟩⟩⟩⟩
    · rw [if_pos e0] at q; rw [nm_s0 hS]; exact q
    · rw [if_neg e0, if_pos e1] at q; rw [w2]; exact q
    · rw [if_neg e0, if_neg e1, if_pos e2] at q; exact q
    · rw [if_neg e0, if_neg e1, if_neg e2, if_pos e3] at q; rw [nm_s1 hS]; exact q
    · rw [if_neg e0, if_neg e1, if_neg e2, if_neg e3, if_pos e4] at q; rw [nm_s2 hS]; exact q
    · rw [if_neg e0, if_neg e1, if_neg e2, if_neg e3, if_neg e4, if_pos e5] at q; rw [c8.2.1]; exact q
    · rw [if_neg e0, if_neg e1, if_neg e2, if_neg e3, if_neg e4, if_neg e5, if_pos e6] at q; rw [c10.1]; exact q
    · rw [if_neg e0, if_neg e1, if_neg e2, if_neg e3, if_neg e4, if_neg e5, if_neg e6, if_neg (by omega), if_neg (by omega), if_neg (by omega), if_neg (by omega), if_neg (by omega), if_pos e12] at q; rw [nm_s3 hS]; exact q
    · rw [if_neg e0, if_neg e1, if_neg e2, if_neg e3, if_neg e4, if_neg e5, if_neg e6, if_neg (by omega), if_neg (by omega), if_neg (by omega), if_neg (by omega), if_neg (by omega), if_neg e12, if_neg (by omega), if_neg (by omega)] at q; exact q
  have a22 : k < 7 ∨ 11 < k → am_WP d am_c41 22 [(2, 0), (0, k)] [] M Q := by
    intro x1
    refine h_41_22 hL ⟨fun h => a46 x1 (.inl h), fun h => ⟨fun h' => a46 x1 (.inr h'), fun h' => ⟨by omega, ?_⟩⟩⟩
    rw [am_w_id (x := k - 13) (by omega) (by omega)]
    refine nmc_120 hL hS cW (h_41_45 hL ?_)
    rw [if_neg (by omega), if_neg (by omega), if_neg (by omega), if_neg (by omega), if_neg (by omega), if_neg (by omega), if_neg (by omega), if_neg (by omega), if_neg (by omega), if_neg (by omega), if_neg (by omega), if_neg (by omega), if_neg (by omega)] at q
    by_cases h13 : k = 13
    · rw [if_pos h13] at q; rw [if_pos (by omega)]; exact q
    · rw [if_neg h13, if_pos (by omega)] at q; rw [if_neg (by omega), if_pos (by omega), show 4 + (k - 13) = k - 9 by omega]; exact q
  refine h_41_0 hL ⟨fun h => a22 (.inl h), fun h => ⟨fun h' => a22 (.inr h'), fun h' => ?_⟩⟩
  rw [am_w_id (x := k - 7) (by omega) (by omega)]
  refine ⟨by omega, by omega, ?_⟩
  have hk : k = 7 ∨ k = 8 ∨ k = 9 ∨ k = 10 ∨ k = 11 := by omega
  rcases hk with rfl | rfl | rfl | rfl | rfl
  · show Q [(0, am_gt M 184 0)] M; rw [r1]; exact q
  · show Q [(0, am_gt M 184 1)] M; rw [r2]; exact q
  · show Q [(0, am_gt M 184 2)] M; rw [r3]; exact q
  · show Q [(0, am_gt M 184 3)] M; rw [r5]; exact q
  · show Q [(0, am_gt M 184 4)] M; rw [r6]; exact q
/-! THE REFERENCE'S PICTURE OF THE STATE -/
/-- a memory that holds a row where the reference has its own -/
def nm_mr (r : Int → Int) : am_M := (0, 0, fun _ => (0, 0), fun _ i => r i)
theorem nm_mr_gt (r : Int → Int) (a i : Int) : am_gt (nm_mr r) a i = r i := rfl
theorem nm_MT_kp2 {M M' : am_M} {a : Int} {T : nm_T} (h : nm_MT M a T) (ha : 110 ≤ a) (ha2 : a ≤ 4610) (hk : ∀ i, 110 ≤ i → i < 5510 → am_gt M' 216 i = am_gt M 216 i) : nm_MT M' a T := by
  obtain ⟨h1, h2, h3⟩ := h
  have blk : ∀ i j f, nm_mblk M a i j f → nm_mblk M' a i j f := by
    rintro i j f ⟨cop, car, ht, b1, b2, b3, b4, b5⟩
    exact ⟨cop, car, ht, b1, b2, b3, b4, fun k x y => by rw [hk _ (by omega) (by omega), hk _ (by omega) (by omega)]; exact b5 k x y⟩
  refine ⟨by rw [hk _ (by omega) (by omega)]; exact h1, h2, fun k hl => ?_⟩
  obtain ⟨f, g, q1, q2, q3⟩ := h3 k hl
  refine ⟨f, g, ?_, ?_, ?_⟩
  · rw [hk _ (by omega) (by omega)]; exact q1
  · rw [hk _ (by omega) (by omega), hk _ (by omega) (by omega)]
    rcases q2 with q | ⟨q, r, s⟩
    · exact .inl q
    · exact .inr ⟨q, blk _ _ _ r, s⟩
  · rw [hk _ (by omega) (by omega), hk _ (by omega) (by omega), hk _ (by omega) (by omega)]
    exact fun h => blk _ _ _ (q3 h)
theorem nm_MW_kp2 {M M' : am_M} {W : nm_W} (h : nm_MW M W) (hk : ∀ i, 4 ≤ i → i < 29 → am_gt M' 216 i = am_gt M 216 i) : nm_MW M' W := by
  obtain ⟨h1, h2, h3, h4, h5, h6⟩ := h
  refine ⟨by rw [hk 4 (by decide) (by decide)]; exact h1, by rw [hk 8 (by decide) (by decide)]; exact h2, h3, fun p hp => by rw [hk _ (by omega) (by omega)]; exact h4 p hp, fun m a b => by rw [hk _ (by omega) (by omega)]; exact h5 m a b, fun p a b => by rw [hk _ (by omega) (by omega)]; exact h6 p a b⟩
/-- a row that holds what an image keeps -/
def nm_MG (M : am_M) (G : nm_G) : Prop := nm_MS M G.1 ∧ nm_MW M G.2.1 ∧ nm_MX M G.1 G.2.2
theorem nm_MG_kp {M M' : am_M} {G : nm_G} (hO : G.1 2 ≤ 6) (h : nm_MG M G) (hk : ∀ i, 0 ≤ i → i < 5510 → am_gt M' 216 i = am_gt M 216 i) : nm_MG M' G :=
  ⟨fun i hi => by rw [hk i (by unfold nm_si at hi; omega) (by unfold nm_si at hi; omega)]; exact h.1 i hi, nm_MW_kp2 h.2.1 (fun i a b => hk i (by omega) (by omega)), fun k k0 k1 => nm_MT_kp2 (h.2.2 k k0 k1) (by omega) (by omega) (fun i a b => hk i (by omega) b)⟩
def nm_MU (M : am_M) (S : Int → Int) (U : List (Int × nm_W)) : Prop := am_gt M 214 8 = (U.length : Int) ∧ U.length ≤ 16 ∧ ∀ k : Nat, k < U.length → am_gt M 220 (k : Int) = (U.getD k nm_u0).1 ∧ nm_MW (nm_mr (fun i => am_gt M 219 (25 * (k : Int) + (i - 4)))) (U.getD k nm_u0).2 ∧ ∀ i, 5 ≤ i → i ≤ 7 → am_gt M 219 (25 * (k : Int) + (i - 4)) = S i
def nm_MP (M : am_M) (P : Int → Int) (L : Int) : Prop := am_gt M 214 13 = L ∧ ∀ i, 0 ≤ i → i < L → am_gt M 223 i = P i
def nm_MR (M : am_M) (R : Int → Int) : Prop := am_gt M 214 1 = R 0 ∧ (∀ j, 1 ≤ j → j ≤ 6 → j ≠ 4 → am_gt M 215 j = R j) ∧ am_gt M 214 11 = R 7 ∧ am_gt M 214 18 = R 8 ∧ am_gt M 214 54 = R 9 ∧ am_gt M 214 58 = R 10
def nm_MY (M : am_M) (n : Int) (Y : nm_W) : Prop := n = -1 ∨ ((∀ p, 0 ≤ p → p < 8 → am_gt M 246 p = Y.2.2.2 p) ∧ ∀ m, 0 ≤ m → m < n → am_gt M 246 (8 + m) = Y.2.2.1 m ∧ am_gt M 246 (14 + m) = nm_ix Y.2.1 m)
def nm_MI (M : am_M) (k : Int) (G : nm_G) : Prop := nm_MG (nm_mr (fun i => am_gt M 217 (5510 * k + i))) G
def nm_M (M : am_M) (X : nm_X) : Prop := nm_MA M (nx_S X) (nx_W X) (nx_D X) ∧ (∀ k, 0 ≤ k → k < 2 → am_gt M 218 k = nx_K X k ∧ (nx_K X k = 1 → nm_MI M k (nx_I X k))) ∧ nm_MU M (nx_S X) (nx_U X) ∧ nm_MP M (nx_P X) (nx_L X) ∧ nm_MR M (nx_R X) ∧ nm_MY M (nx_R X 10) (nx_Y X)
abbrev nm_Mg1 : nm_Rg := [(214, 1, 2), (214, 8, 9), (214, 11, 12), (214, 13, 14), (214, 18, 19), (214, 20, 21), (214, 54, 55), (214, 58, 59)]
theorem nm_MU_fr {n s : Int} {f : nm_Rg} {M M' : am_M} {S : Int → Int} {U : List (Int × nm_W)} (h : nm_MU M S U) (hL : nm_Lay M) (F : nm_Fg n s f M M') (h1 : nm_dj f [(214, 8, 9)] = true) (h2 : nm_dj f [(219, 0, 400)] = true) (h3 : nm_no f 220 = true) : nm_MU M' S U := by
  obtain ⟨u0, u1, u2⟩ := h
  refine ⟨by rw [nm_gt_frd F hL (by decide) h1 (by decide)]; exact u0, u1, fun k hk => ?_⟩
  obtain ⟨q1, q2, q3⟩ := u2 k hk
  have e : ∀ i, 4 ≤ i → i < 29 → am_gt M' 219 (25 * (k : Int) + (i - 4)) = am_gt M 219 (25 * (k : Int) + (i - 4)) := fun i a b => nm_gt_frd F hL (by decide) h2 (nm_in_c (lo := 0) (hi := 400) (by decide) (by omega) (by omega))
  refine ⟨by rw [nm_gt_frn F hL (by decide) h3]; exact q1, nm_MW_kp2 q2 (fun i a b => e i a b), fun i a b => by rw [e i (by omega) (by omega)]; exact q3 i a b⟩
theorem nm_MI_fr {n s : Int} {f : nm_Rg} {M M' : am_M} {k : Int} {G : nm_G} (hO : G.1 2 ≤ 6) (h : nm_MI M k G) (hL : nm_Lay M) (F : nm_Fg n s f M M') (h1 : nm_no f 217 = true) : nm_MI M' k G := nm_MG_kp hO h (fun i _ _ => by rw [nm_mr_gt, nm_mr_gt]; exact nm_gt_frn F hL (by decide) h1)
theorem nm_MR_fr {n s : Int} {f : nm_Rg} {M M' : am_M} {R : Int → Int} (h : nm_MR M R) (hL : nm_Lay M) (F : nm_Fg n s f M M') (h1 : nm_dj f nm_Mg1 = true) (h2 : nm_no f 215 = true) : nm_MR M' R := by
  obtain ⟨r0, r1, r2, r3, r4, r5⟩ := h
  exact ⟨by rw [nm_gt_frd F hL (by decide) h1 (by decide)]; exact r0, fun j a b c => by rw [nm_gt_frn F hL (by decide) h2]; exact r1 j a b c, by rw [nm_gt_frd F hL (by decide) h1 (by decide)]; exact r2, by rw [nm_gt_frd F hL (by decide) h1 (by decide)]; exact r3, by rw [nm_gt_frd F hL (by decide) h1 (by decide)]; exact r4, by rw [nm_gt_frd F hL (by decide) h1 (by decide)]; exact r5⟩
theorem nm_MP_fr {n s : Int} {f : nm_Rg} {M M' : am_M} {P : Int → Int} {L : Int} (h : nm_MP M P L) (hL : nm_Lay M) (F : nm_Fg n s f M M') (h1 : nm_dj f [(214, 13, 14)] = true) (h2 : nm_no f 223 = true) : nm_MP M' P L := ⟨by rw [nm_gt_frd F hL (by decide) h1 (by decide)]; exact h.1, fun i a b => by rw [nm_gt_frn F hL (by decide) h2]; exact h.2 i a b⟩
theorem nm_MY_fr {n s : Int} {f : nm_Rg} {M M' : am_M} {k : Int} {Y : nm_W} (h : nm_MY M k Y) (hL : nm_Lay M) (F : nm_Fg n s f M M') (h1 : nm_no f 246 = true) : nm_MY M' k Y := by
  rcases h with h | ⟨a, b⟩
  · exact .inl h
  · exact .inr ⟨fun p x y => by rw [nm_gt_frn F hL (by decide) h1]; exact a p x y, fun m x y => by rw [nm_gt_frn F hL (by decide) h1, nm_gt_frn F hL (by decide) h1]; exact b m x y⟩
/-- a frame that keeps the reference's picture -/
def nm_mok (f : nm_Rg) : Bool := nm_lk f && (nm_no f 216 && (nm_dj f nm_Mg1 && (nm_no f 217 && (nm_no f 218 && (nm_dj f [(219, 0, 400)] && (nm_no f 220 && (nm_no f 223 && (nm_no f 215 && nm_no f 246))))))))
theorem nm_dj_m {f g h : nm_Rg} (hf : nm_dj f g = true) (hs : ∀ q ∈ h, q ∈ g) : nm_dj f h = true := List.all_eq_true.mpr (fun p hp => List.all_eq_true.mpr (fun q hq => List.all_eq_true.mp (List.all_eq_true.mp hf p hp) q (hs q hq)))
theorem nm_ok_I {X : nm_X} (h : nm_ok X) {k : Int} (k0 : 0 ≤ k) (k2 : k < 2) (hk : nx_K X k = 1) : (nx_I X k).1 2 ≤ 6 := by
  rcases h.2.1 k k0 k2 with e | ⟨-, e⟩
  · omega
  · exact e.1.2.2.1.2
theorem nm_M_fr {n s : Int} {f : nm_Rg} {M M' : am_M} {X : nm_X} (hok : nm_ok X) (h : nm_M M X) (F : nm_Fg n s f M M') (hf : nm_mok f = true) : nm_M M' X := by
  unfold nm_mok at hf
  simp only [Bool.and_eq_true] at hf
  obtain ⟨f1, f2, f3, f4, f5, f6, f7, f8, f9, f10⟩ := hf
  obtain ⟨m1, m2, m3, m4, m5, m6⟩ := h
  have hL := m1.1
  refine ⟨nm_MA_fr m1 F f1 f2 (nm_dj_m f3 (by decide)), fun k a b => ⟨by rw [nm_gt_frn F hL (by decide) f5]; exact (m2 k a b).1, fun e => nm_MI_fr (nm_ok_I hok a b e) ((m2 k a b).2 e) hL F f4⟩, nm_MU_fr m3 hL F (nm_dj_m f3 (by decide)) f6 f7, nm_MP_fr m4 hL F (nm_dj_m f3 (by decide)) f8, nm_MR_fr m5 hL F f3 f9, nm_MY_fr m6 hL F f10⟩
theorem nm_cAll_m : nm_mok nm_cAll = true := by decide +kernel
theorem nm_M_L {M : am_M} {X : nm_X} (h : nm_M M X) : nm_Lay M := h.1.1
abbrev nm_KM (X : nm_X) (r : List am_V) (M : am_M) (Q : List am_V → am_M → Prop) : Prop := ∀ M', nm_Fr nm_mAll M M' → nm_M M' X → Q r M'
theorem nm_mF {f : nm_Rg} {M M' : am_M} (F : nm_Fr f M M') (h : nm_sb f nm_mAll = true) : nm_Fr nm_mAll M M' := nm_Fr_sub F h
/-- nothing thrown -/
theorem nm_m0 {M : am_M} {X : nm_X} (hok : nm_ok X) (h : nm_M M X) : nm_M (am_st M 214 0 0) X := nm_M_fr hok h (nm_Fr_st (nm_Fg_refl [(214, 0, 1)] M) (by decide)) (by decide +kernel)
theorem nm_m0F {M : am_M} : nm_Fr nm_mAll M (am_st M 214 0 0) := nm_Fr_st (nm_Fg_refl _ _) (by decide +kernel)
/-- answers alone changed -/
abbrev nm_Mf : nm_Rg := [(214, 1, 2), (215, 0, 7)]
theorem nm_M_R {M M' : am_M} {X : nm_X} {R : Int → Int} (hok : nm_ok X) (h : nm_M M X) (F : nm_Fr nm_Mf M M') (r : nm_MR M' R) (e : R 10 = nx_R X 10) : nm_M M' (ns_R X R) := by
  obtain ⟨m1, m2, m3, m4, m5, m6⟩ := h
  have hL := m1.1
  refine ⟨nm_MA_fr m1 F (by decide +kernel) (by decide) (by decide), fun k a b => ⟨by rw [nm_gt_frn F hL (by decide) (by decide)]; exact (m2 k a b).1, fun e => nm_MI_fr (nm_ok_I hok a b e) ((m2 k a b).2 e) hL F (by decide)⟩, nm_MU_fr m3 hL F (by decide) (by decide) (by decide), nm_MP_fr m4 hL F (by decide) (by decide), r, ?_⟩
  show nm_MY M' (R 10) (nx_Y X)
  rw [e]; exact nm_MY_fr m6 hL F (by decide)
theorem nmm_145 {d : Nat} {a : Int} {R : Int → Int} {M : am_M} {Q : List am_V → am_M → Prop} (hv : 0 ≤ a ∨ a = -1 ∨ a = -2 ∨ a = -3 ∨ a = -5 ∨ a = -6) (hL : nm_Lay M) (hR : nm_MR M R) (hQ : ∀ M', nm_Fr nm_Mf M M' → nm_MR M' (nm_tl1 R a) → Q [(0, a)] M') : am_CL d 145 [(2, 214), (0, a)] M Q := by
  obtain ⟨r0, r1, r2, r3, r4, r5⟩ := hR
  refine h_145_0 hL ⟨fun h => ⟨fun _ => ?_, fun h' => absurd h h'⟩, fun h => ⟨fun h' => absurd h' h, fun _ => ?_⟩⟩
  · refine hQ _ (nm_Fr_st (nm_Fg_refl _ _) (by decide)) ?_
    unfold nm_tl1; rw [if_neg (by omega)]
    unfold nm_fn1
    refine ⟨by rw [nm_st_eq, nm_up_eq], fun j x y z => ?_, ?_, ?_, ?_, ?_⟩
    · rw [nm_st_ne (by decide), nm_up_ne (by omega)]; exact r1 j x y z
    · rw [nm_st_nj (by decide), nm_up_ne (by decide)]; exact r2
    · rw [nm_st_nj (by decide), nm_up_ne (by decide)]; exact r3
    · rw [nm_st_nj (by decide), nm_up_ne (by decide)]; exact r4
    · rw [nm_st_nj (by decide), nm_up_ne (by decide)]; exact r5
  · have w : am_w (-a) = -a := am_w_id (by omega) (by omega)
    rw [w]
    refine ⟨by omega, by omega, hQ _ (nm_Fr_st (nm_Fr_st (nm_Fg_refl _ _) (by decide)) (nm_in_c (lo := 0) (hi := 7) (by decide) (by omega) (by omega))) ?_⟩
    unfold nm_tl1; rw [if_pos (by omega)]
    refine ⟨by rw [nm_st_ne (by decide), nm_st_eq]; rfl, fun j x y z => ?_, ?_, ?_, ?_, ?_⟩
    · unfold nm_rf1
      rw [if_neg (by omega), nm_gt_st]
      by_cases hj : j = -a
      · rw [if_pos ⟨rfl, hj⟩, if_pos hj, r1 (-a) (by omega) (by omega) (by omega), hj]
      · rw [if_neg (fun c => hj c.2), if_neg hj, nm_st_ne (by decide)]; exact r1 j x y z
    · unfold nm_rf1; rw [if_neg (by omega), if_neg (by omega), nm_st_ne (by decide), nm_st_nj (by decide)]; exact r2
    · unfold nm_rf1; rw [if_neg (by omega), if_neg (by omega), nm_st_ne (by decide), nm_st_nj (by decide)]; exact r3
    · unfold nm_rf1; rw [if_neg (by omega), if_neg (by omega), nm_st_ne (by decide), nm_st_nj (by decide)]; exact r4
    · unfold nm_rf1; rw [if_neg (by omega), if_neg (by omega), nm_st_ne (by decide), nm_st_nj (by decide)]; exact r5
theorem nm_tl10 {R : Int → Int} {a : Int} (hv : 0 ≤ a ∨ a = -1 ∨ a = -2 ∨ a = -3 ∨ a = -5 ∨ a = -6) : nm_tl1 R a 10 = R 10 := by
  unfold nm_tl1
  by_cases h : a < 0
  · rw [if_pos h]; exact nm_rf10 (by omega)
  · rw [if_neg h]; exact nm_up_ne (by decide)
theorem nmy_145 {d : Nat} {a : Int} {X : nm_X} {M : am_M} {Q : List am_V → am_M → Prop} (hok : nm_ok X) (hv : 0 ≤ a ∨ a = -1 ∨ a = -2 ∨ a = -3 ∨ a = -5 ∨ a = -6) (hM : nm_M M X) (hQ : ∀ M', nm_Fr nm_Mf M M' → nm_M M' (nx_tl X a) → Q [(0, a)] M') : am_CL d 145 [(2, 214), (0, a)] M Q :=
  nmm_145 hv (nm_M_L hM) hM.2.2.2.2.1 (fun M' F r => hQ M' F (nm_M_R hok hM F r (nm_tl10 hv)))
theorem nx_tl_rf {X : nm_X} {a : Int} (h : a < 0) : nx_tl X a = nx_rf X a := by unfold nx_tl nx_rf nm_tl1; rw [if_pos h]
theorem nx_tl_fn {X : nm_X} {a : Int} (h : 0 ≤ a) : nx_tl X a = nx_fn X := by unfold nx_tl nx_fn nm_tl1; rw [if_neg (by omega)]
/-- refused, and nothing more -/
theorem nmq_ref {d k : Nat} {pc : Nat} {v : Int} {ls : List am_V} {X : nm_X} {M0 M : am_M} {Q : List am_V → am_M → Prop} (hok : nm_ok X) (hv : v = -1 ∨ v = -2 ∨ v = -3 ∨ v = -5 ∨ v = -6) (F0 : nm_Fr nm_mAll M0 M) (hM : nm_M M X) (hw : ∀ M', nm_Lay M' → Q [(0, v)] M' → am_WP d (am_cs k) pc ls [(0, v)] M' Q) (hQ : nm_KM (nx_rf X v) [(0, v)] M0 Q) : am_CL (d - 1) 145 [(2, 214), (0, v)] M (fun r M' => am_WP d (am_cs k) pc ls (r ++ []) M' Q) :=
  nmy_145 hok (by omega) hM (fun M' F C => hw M' (nm_M_L C) (hQ M' (nm_Fr_trans F0 (nm_mF F (by decide +kernel))) (by rw [nx_tl_rf (by omega)] at C; exact C)))
theorem nmm_155 {d : Nat} {m : Int} {M : am_M} {Q : List am_V → am_M → Prop} (hd : 1 ≤ d) (hL : nm_Lay M) (h1 : 0 ≤ m → m < 8 → Q [(0, 1)] M) (h0 : m < 0 ∨ 8 ≤ m → Q [(0, 0)] M) : am_CL d 155 [(0, m)] M Q := by
  refine h_155_0 hL ⟨by omega, nm_m142 hL ?_⟩
  by_cases h : 0 ≤ m ∧ m ≤ 7
  · rw [if_pos h]; exact h_155_9 hL ⟨.inr rfl, h1 h.1 (by omega)⟩
  · rw [if_neg h]; exact h_155_9 hL ⟨.inl rfl, h0 (by omega)⟩
theorem nmm_156 {d : Nat} {m : Int} {M : am_M} {Q : List am_V → am_M → Prop} (hd : 1 ≤ d) (hL : nm_Lay M) (h1 : 1 ≤ m → m ≤ 8 → Q [(0, 1)] M) (h0 : m < 1 ∨ 8 < m → Q [(0, 0)] M) : am_CL d 156 [(0, m)] M Q := by
  refine h_156_0 hL ⟨by omega, nm_m142 hL ?_⟩
  by_cases h : 1 ≤ m ∧ m ≤ 8
  · rw [if_pos h]; exact h_156_9 hL ⟨.inr rfl, h1 h.1 h.2⟩
  · rw [if_neg h]; exact h_156_9 hL ⟨.inl rfl, h0 (by omega)⟩
theorem nmm_142 {d : Nat} {v lo hi : Int} {M : am_M} {Q : List am_V → am_M → Prop} (hL : nm_Lay M) (h1 : lo ≤ v → v ≤ hi → Q [(0, 1)] M) (h0 : v < lo ∨ hi < v → Q [(0, 0)] M) : am_CL d 142 [(1, v), (1, lo), (1, hi)] M Q := by
  refine nm_m142 hL ?_
  by_cases h : lo ≤ v ∧ v ≤ hi
  · rw [if_pos h]; exact h1 h.1 h.2
  · rw [if_neg h]; exact h0 (by omega)
theorem nmm_154 {d : Nat} {m : Int} {S : Int → Int} {M : am_M} {Q : List am_V → am_M → Prop} (hd : 1 ≤ d) (hL : nm_Lay M) (hS : nm_MS M S) (hO : nm_okS S) (h1 : 0 ≤ m → m < S 0 → Q [(0, 1)] M) (h0 : m < 0 ∨ S 0 ≤ m → Q [(0, 0)] M) : am_CL d 154 [(2, 214), (0, m)] M Q := by
  have e : am_gt M 216 0 = S 0 := hS 0 (by unfold nm_si; omega)
  have o := hO.1
  refine nm_m154 hd hL (by omega) (by omega) ?_
  rw [e]
  by_cases h : 0 ≤ m ∧ m < S 0
  · rw [if_pos h]; exact h1 h.1 h.2
  · rw [if_neg h]; exact h0 (by omega)
/-- the parts of a number, as the reference counts them -/
def nm_mdl : Nat → Int → Int → Int → Int
  | 0, n, s, _ => if s = 0 then -1 else n
  | f + 1, n, s, r => if r ≤ 0 then (if s = 0 then -1 else n) else nm_mdl f (n + 1) (if s = 0 ∨ (r % 10 < 1 ∨ 8 < r % 10) then 0 else 1) (r / 10)
theorem nm_mdl0 : ∀ (f : Nat) (n r : Int), nm_mdl f n 0 r = -1
  | 0, _, _ => rfl
  | f + 1, n, r => by
    show (if r ≤ 0 then _ else _) = _
    by_cases h : r ≤ 0
    · rw [if_pos h]; rfl
    · rw [if_neg h, if_pos (Or.inl rfl), nm_mdl0 f]
theorem nm_mdl_z {f : Nat} {n r : Int} (h : r = 0) : nm_mdl f n 1 r = n := by
  cases f with
  | zero => rfl
  | succ f => unfold nm_mdl; rw [if_pos (by omega)]; rfl
theorem nm_mdl_b {f : Nat} {n r : Int} (h : 0 < r) (hb : r % 10 < 1 ∨ 8 < r % 10) : nm_mdl (f + 1) n 1 r = -1 := by
  show (if r ≤ 0 then _ else _) = _
  rw [if_neg (by omega), if_pos (.inr hb), nm_mdl0]
theorem nm_mdl_s {f : Nat} {n r : Int} (h : 0 < r) (hb : ¬ (r % 10 < 1 ∨ 8 < r % 10)) : nm_mdl (f + 1) n 1 r = nm_mdl f (n + 1) 1 (r / 10) := by
  show (if r ≤ 0 then _ else _) = _
  rw [if_neg (by omega), if_neg (by omega)]
theorem nm_mdl_pc {v : Int} (h : 0 < v) (h2 : v ≤ 88888) : nm_mdl 5 0 1 v = if nm_pc v = 0 then -1 else nm_pc v := by
  by_cases c0 : v % 10 < 1 ∨ 8 < v % 10
  · have e : nm_pc v = 0 := by unfold nm_pc; rw [if_neg (show ¬ v ≤ 0 by omega), if_pos c0]
    rw [nm_mdl_b h c0, e]; rfl
  rw [nm_mdl_s h c0]
  by_cases z0 : v / 10 = 0
  · have e : nm_pc v = 1 := by unfold nm_pc; rw [if_neg (show ¬ v ≤ 0 by omega), if_neg c0, if_pos z0]
    rw [nm_mdl_z z0, e]; rfl
  by_cases c1 : v / 10 % 10 < 1 ∨ 8 < v / 10 % 10
  · have e : nm_pc v = 0 := by unfold nm_pc; rw [if_neg (show ¬ v ≤ 0 by omega), if_neg c0, if_neg z0, if_pos c1]
    rw [nm_mdl_b (by omega) c1, e]; rfl
  rw [nm_mdl_s (by omega) c1, show v / 10 / 10 = v / 100 by omega]
  by_cases z1 : v / 100 = 0
  · have e : nm_pc v = 2 := by unfold nm_pc; rw [if_neg (show ¬ v ≤ 0 by omega), if_neg c0, if_neg z0, if_neg c1, if_pos z1]
    rw [nm_mdl_z z1, e]; rfl
  by_cases c2 : v / 100 % 10 < 1 ∨ 8 < v / 100 % 10
  · have e : nm_pc v = 0 := by unfold nm_pc; rw [if_neg (show ¬ v ≤ 0 by omega), if_neg c0, if_neg z0, if_neg c1, if_neg z1, if_pos c2]
    rw [nm_mdl_b (by omega) c2, e]; rfl
  rw [nm_mdl_s (by omega) c2, show v / 100 / 10 = v / 1000 by omega]
  by_cases z2 : v / 1000 = 0
  · have e : nm_pc v = 3 := by unfold nm_pc; rw [if_neg (show ¬ v ≤ 0 by omega), if_neg c0, if_neg z0, if_neg c1, if_neg z1, if_neg c2, if_pos z2]
    rw [nm_mdl_z z2, e]; rfl
  by_cases c3 : v / 1000 % 10 < 1 ∨ 8 < v / 1000 % 10
  · have e : nm_pc v = 0 := by unfold nm_pc; rw [if_neg (show ¬ v ≤ 0 by omega), if_neg c0, if_neg z0, if_neg c1, if_neg z1, if_neg c2, if_neg z2, if_pos c3]
    rw [nm_mdl_b (by omega) c3, e]; rfl
  rw [nm_mdl_s (by omega) c3, show v / 1000 / 10 = v / 10000 by omega]
  by_cases z3 : v / 10000 = 0
  · have e : nm_pc v = 4 := by unfold nm_pc; rw [if_neg (show ¬ v ≤ 0 by omega), if_neg c0, if_neg z0, if_neg c1, if_neg z1, if_neg c2, if_neg z2, if_neg c3, if_pos z3]
    rw [nm_mdl_z z3, e]; rfl
  by_cases c4 : v / 10000 % 10 < 1 ∨ 8 < v / 10000 % 10
  · have e : nm_pc v = 0 := by unfold nm_pc; rw [if_neg (show ¬ v ≤ 0 by omega), if_neg c0, if_neg z0, if_neg c1, if_neg z1, if_neg c2, if_neg z2, if_neg c3, if_neg z3, if_pos c4]
    rw [nm_mdl_b (by omega) c4, e]; rfl
  rw [nm_mdl_s (by omega) c4, show v / 10000 / 10 = v / 100000 by omega]
  have e : nm_pc v = 5 := by unfold nm_pc; rw [if_neg (show ¬ v ≤ 0 by omega), if_neg c0, if_neg z0, if_neg c1, if_neg z1, if_neg c2, if_neg z2, if_neg c3, if_neg z3, if_neg c4, if_pos (by omega)]
  rw [nm_mdl_z (by omega), e]; rfl
theorem nmm_158 {d : Nat} {v : Int} {M : am_M} {Q : List am_V → am_M → Prop} (hd : 1 ≤ d) (hL : nm_Lay M) (hQ : Q [(0, if nm_pc v = 0 then -1 else nm_pc v)] M) : am_CL d 158 [(0, v)] M Q := by
  have key : ∀ (f : Nat) (n s r : Int), 0 ≤ n → n + (f : Int) ≤ 100 → (s = 0 ∨ s = 1) → 0 ≤ r → r ≤ 88888 → r < 10 ^ f → Q [(0, nm_mdl f n s r)] M → am_WP d am_c158 28 [(0, v), (0, n), (0, s), (0, r)] [] M Q := by
    intro f
    induction f with
    | zero =>
      intro n s r n0 n1 hs r0 r1 r2 q
      have : r = 0 := by rw [Int.pow_zero] at r2; omega
      exact h_158_28 hL ⟨fun _ => ⟨fun h => by unfold nm_mdl at q; rw [if_pos h] at q; exact q, fun h => by unfold nm_mdl at q; rw [if_neg h] at q; exact q⟩, fun h => absurd this (by omega)⟩
    | succ f ih =>
      intro n s r n0 n1 hs r0 r1 r2 q
      rw [Int.pow_succ] at r2
      have w1 : am_w (n + 1) = n + 1 := am_w_id (by omega) (by omega)
      have w2 : am_w (r.tdiv 10) = r / 10 := by rw [nm_td r0, am_w_id (by omega) (by omega)]
      have q' : Q [(0, if r ≤ 0 then (if s = 0 then -1 else n) else nm_mdl f (n + 1) (if s = 0 ∨ (r % 10 < 1 ∨ 8 < r % 10) then 0 else 1) (r / 10))] M := q
      refine h_158_28 hL ?_
      rw [w1, w2, nm_tm r0]
      refine ⟨fun h => ⟨fun h' => by rw [if_pos h, if_pos h'] at q'; exact q', fun h' => by rw [if_pos h, if_neg h'] at q'; exact q'⟩, fun h => ⟨fun h' => ?_, fun h' => ⟨by omega, nmm_142 hL (fun a b => ?_) (fun a => ?_)⟩⟩⟩
      · rw [if_neg h, if_pos (.inl h')] at q'
        exact ih (n + 1) 0 (r / 10) (by omega) (by omega) (.inl rfl) (by omega) (by omega) (by omega) q'
      · rw [if_neg h, if_neg (by omega)] at q'
        refine h_158_48 hL ?_
        rw [w1, w2]
        exact ⟨fun h => absurd h (by decide), fun _ => ih (n + 1) 1 (r / 10) (by omega) (by omega) (.inr rfl) (by omega) (by omega) (by omega) q'⟩
      · rw [if_neg h, if_pos (by omega)] at q'
        refine h_158_48 hL ?_
        rw [w1, w2]
        exact ⟨fun _ => ih (n + 1) 0 (r / 10) (by omega) (by omega) (.inl rfl) (by omega) (by omega) (by omega) q', fun h => absurd rfl h⟩
  have bad : nm_pc v = 0 → am_WP d am_c158 28 [(0, v), (0, 0), (0, 0), (0, 0)] [] M Q := by
    intro h
    rw [if_pos h] at hQ
    exact key 0 0 0 0 (by decide) (by decide) (.inl rfl) (by decide) (by decide) (by decide) hQ
  refine h_158_0 hL ⟨fun h => ⟨fun _ => bad ?_, fun h => absurd rfl h⟩, fun h => ⟨fun h' => ⟨fun _ => bad ?_, fun h => absurd rfl h⟩, fun h' => ⟨fun h => absurd h (by decide), fun _ => ?_⟩⟩⟩
  · unfold nm_pc; rw [if_pos h]
  · unfold nm_pc
    repeat' split
    all_goals omega
  · refine key 5 0 1 v (by decide) (by decide) (.inr rfl) (by omega) (by omega) (by simp only [Int.reducePow]; omega) ?_
    rw [nm_mdl_pc (by omega) (by omega)]; exact hQ
theorem nm_sb1 {a lo hi lo' hi' : Int} {f : nm_Rg} (hm : (a, lo', hi') ∈ f) (h1 : lo' ≤ lo) (h2 : hi ≤ hi') : nm_sb [(a, lo, hi)] f = true := by
  unfold nm_sb
  simp only [List.all_cons, List.all_nil, Bool.and_true, List.any_eq_true, Bool.and_eq_true, decide_eq_true_eq]
  exact ⟨_, hm, rfl, h1, h2⟩
/-- a snapshot -/
theorem nmm_148 {d : Nat} {k : Int} {M : am_M} {Q : List am_V → am_M → Prop} (hL : nm_Lay M) (k0 : 0 ≤ k) (k1 : k < 18) (hQ : ∀ M', nm_Fr [(219, 25 * k, 25 * k + 25)] M M' → (∀ i, 4 ≤ i → i < 29 → am_gt M' 219 (25 * k + (i - 4)) = am_gt M 216 i) → Q [] M') : am_CL d 148 [(2, 214), (0, k)] M Q := by
  refine h_148_0 hL ?_
  have key : ∀ j : Nat, j ≤ 25 → ∀ M1, nm_Fr [(219, 25 * k, 25 * k + 25)] M M1 → (∀ i, 4 ≤ i → i < 4 + (j : Int) → am_gt M1 219 (25 * k + (i - 4)) = am_gt M 216 i) → am_WP d am_c148 2 [(2, 214), (0, k), (0, (j : Int))] [] M1 Q := by
    refine nm_dn ?_
    intro j hj ih M1 F a1
    have hL1 : nm_Lay M1 := nm_Lay_fr hL (nm_Fr_sub F (g := [(219, 0, 450)]) (nm_sb1 (lo' := 0) (hi' := 450) (by decide) (by omega) (by omega))) (by decide +kernel)
    have g : ∀ i, am_gt M1 216 i = am_gt M 216 i := fun i => nm_gt_frn F hL (by decide) (by unfold nm_no; simp only [List.all_cons, List.all_nil, Bool.and_true, Bool.not_eq_true', decide_eq_false_iff_not]; omega)
    refine h_148_2 hL1 ⟨fun h => hQ M1 F (fun i a b => a1 i a (by omega)), fun h => ?_⟩
    rw [am_w_id (x := 4 + (j : Int)) (by omega) (by omega), am_w_id (x := 25 * k) (by omega) (by omega), am_w_id (x := 25 * k + (j : Int)) (by omega) (by omega), nm_wk (by omega), g]
    refine ⟨by omega, by omega, by omega, by omega, ih (by omega) _ (nm_Fr_st F (nm_in_c (lo := 25 * k) (hi := 25 * k + 25) (List.mem_singleton.mpr rfl) (by omega) (by omega))) (fun i a b => ?_)⟩
    rw [nm_gt_st]
    by_cases hi : i = 4 + (j : Int)
    · rw [if_pos ⟨rfl, by omega⟩, hi]
    · rw [if_neg (by omega)]; exact a1 i a (by omega)
  exact key 0 (Nat.zero_le _) M (nm_Fg_refl _ _) (fun i a b => absurd b (by omega))
theorem nmm_149 {d : Nat} {k : Int} {M : am_M} {Q : List am_V → am_M → Prop} (hL : nm_Lay M) (k0 : 0 ≤ k) (k1 : k < 18) (hQ : ∀ M', nm_Fr [(216, 4, 29)] M M' → (∀ i, 4 ≤ i → i < 29 → am_gt M' 216 i = am_gt M 219 (25 * k + (i - 4))) → Q [] M') : am_CL d 149 [(2, 214), (0, k)] M Q := by
  refine h_149_0 hL ?_
  have key : ∀ j : Nat, j ≤ 25 → ∀ M1, nm_Fr [(216, 4, 29)] M M1 → (∀ i, 4 ≤ i → i < 4 + (j : Int) → am_gt M1 216 i = am_gt M 219 (25 * k + (i - 4))) → am_WP d am_c149 2 [(2, 214), (0, k), (0, (j : Int))] [] M1 Q := by
    refine nm_dn ?_
    intro j hj ih M1 F a1
    have hL1 : nm_Lay M1 := nm_Lay_fr hL F (by decide +kernel)
    have g : ∀ i, am_gt M1 219 i = am_gt M 219 i := fun i => nm_gt_frn F hL (by decide) (by decide)
    refine h_149_2 hL1 ⟨fun h => hQ M1 F (fun i a b => a1 i a (by omega)), fun h => ?_⟩
    rw [am_w_id (x := 4 + (j : Int)) (by omega) (by omega), am_w_id (x := 25 * k) (by omega) (by omega), am_w_id (x := 25 * k + (j : Int)) (by omega) (by omega), nm_wk (by omega), g]
    refine ⟨by omega, by omega, by omega, by omega, ih (by omega) _ (nm_Fr_st F (nm_in_c (lo := 4) (hi := 29) (by decide) (by omega) (by omega))) (fun i a b => ?_)⟩
    rw [nm_gt_st]
    by_cases hi : i = 4 + (j : Int)
    · rw [if_pos ⟨rfl, by omega⟩, show i - 4 = (j : Int) by omega]
    · rw [if_neg (by omega)]; exact a1 i a (by omega)
  exact key 0 (Nat.zero_le _) M (nm_Fg_refl _ _) (fun i a b => absurd b (by omega))
/-- one more is kept -/
theorem nmm_150 {d : Nat} {kind : Int} {S : Int → Int} {W : nm_W} {U : List (Int × nm_W)} {M : am_M} {Q : List am_V → am_M → Prop} (hd : 2 ≤ d) (hL : nm_Lay M) (hS : nm_MS M S) (hW : nm_MW M W) (hU : nm_MU M S U) (hQ : ∀ M', nm_Fr [(214, 8, 9), (219, 0, 400), (220, 0, 16)] M M' → nm_MU M' S (nm_keep U kind W) → Q [] M') : am_CL d 150 [(2, 214), (0, kind)] M Q := by
  have lay : ∀ {M1}, nm_Fr [(214, 8, 9), (219, 0, 400), (220, 0, 16)] M M1 → nm_Lay M1 := fun F => nm_Lay_fr hL F (by decide +kernel)
  have fin : ∀ (M1 : am_M) (U1 : List (Int × nm_W)) (l : am_V), nm_Fr [(214, 8, 9), (219, 0, 400), (220, 0, 16)] M M1 → nm_MU M1 S U1 → U1.length < 16 → nm_keep U kind W = U1 ++ [(kind, W)] → am_CL (d - 1) 148 [(2, 214), (0, (U1.length : Int))] M1 (fun r M' => am_WP d am_c150 85 [(2, 214), (0, kind), l] (r ++ []) M' Q) := by
    intro M1 U1 l F hU1 hl ek
    obtain ⟨u0, u1, u2⟩ := hU1
    refine nmm_148 (lay F) (by omega) (by omega) (fun M2 F2 a2 => ?_)
    have F2' := nm_Fr_sub F2 (g := [(214, 8, 9), (219, 0, 400), (220, 0, 16)]) (nm_sb1 (a := 219) (lo' := 0) (hi' := 400) (by decide) (by omega) (by omega))
    have F02 := nm_Fr_trans F F2'
    have n2 : ∀ c, c ≠ 219 → nm_no [(219, 25 * (U1.length : Int), 25 * (U1.length : Int) + 25)] c = true := by
      intro c hc; unfold nm_no; simp only [List.all_cons, List.all_nil, Bool.and_true, Bool.not_eq_true', decide_eq_false_iff_not]; omega
    have e8 : am_gt M2 214 8 = (U1.length : Int) := by rw [nm_gt_frn F2 (lay F) (by decide) (n2 _ (by decide))]; exact u0
    refine h_150_85 (lay F02) ?_
    rw [e8, am_w_id (by omega) (by omega)]
    refine ⟨by omega, by omega, hQ _ (nm_Fr_st (nm_Fr_st F02 (nm_in_c (lo := 0) (hi := 16) (by decide) (by omega) (by omega))) (by decide)) ?_⟩
    rw [ek]
    have hlen : (U1 ++ [(kind, W)]).length = U1.length + 1 := by rw [List.length_append]; rfl
    refine ⟨by rw [nm_st_eq, hlen]; omega, by omega, fun k hk => ?_⟩
    rw [hlen] at hk
    have e219 : ∀ i, am_gt (am_st (am_st M2 220 (U1.length : Int) kind) 214 8 ((U1.length : Int) + 1)) 219 i = am_gt M2 219 i := fun i => by rw [nm_st_ne (by decide), nm_st_ne (by decide)]
    have g216 : ∀ i, am_gt M1 216 i = am_gt M 216 i := fun i => nm_gt_frn F hL (by decide) (by decide)
    by_cases hkl : k = U1.length
    · have hx : (U1 ++ [(kind, W)]).getD k nm_u0 = (kind, W) := by rw [hkl, List.getD_eq_getElem?_getD, List.getElem?_concat_length]; rfl
      rw [hx]
      refine ⟨by rw [nm_st_ne (by decide), hkl, nm_st_eq], nm_MW_kp2 hW (fun i a b => ?_), fun i a b => ?_⟩
      · rw [nm_mr_gt, e219, hkl, a2 i a b, g216]
      · rw [e219, hkl, a2 i (by omega) (by omega), g216]; exact hS i (by unfold nm_si; omega)
    · have hx : (U1 ++ [(kind, W)]).getD k nm_u0 = U1.getD k nm_u0 := by rw [List.getD_eq_getElem?_getD, List.getD_eq_getElem?_getD, List.getElem?_append_left (by omega)]
      rw [hx]
      obtain ⟨q1, q2, q3⟩ := u2 k (by omega)
      have ee : ∀ i, 4 ≤ i → i < 29 → am_gt M2 219 (25 * (k : Int) + (i - 4)) = am_gt M1 219 (25 * (k : Int) + (i - 4)) := by
        intro i a b
        refine nm_gt_fr F2 (by have := (lay F).2.2.1; omega) ?_
        rw [Bool.eq_false_iff]; intro hc
        obtain ⟨q, hq, h1, h2, h3⟩ := nm_in_iff.mp hc
        simp only [List.mem_singleton] at hq
        subst hq
        simp only at h2 h3
        omega
      refine ⟨by rw [nm_st_ne (by decide), nm_st_nj (by omega), nm_gt_frn F2 (lay F) (by decide) (n2 _ (by decide))]; exact q1, nm_MW_kp2 q2 (fun i a b => ?_), fun i a b => ?_⟩
      · rw [nm_mr_gt, nm_mr_gt, e219, ee i a b]
      · rw [e219, ee i (by omega) (by omega)]; exact q3 i a b
  have hU' := hU
  obtain ⟨u0, u1, u2⟩ := hU
  refine h_150_0 hL ?_
  rw [u0]
  refine ⟨fun h => ⟨by omega, fin M U _ (nm_Fg_refl _ _) hU' (by omega) (by unfold nm_keep; rw [if_neg (by omega)])⟩, fun h => ?_⟩
  have h16 : U.length = 16 := by omega
  have k1 : ∀ j : Nat, j ≤ 375 → ∀ M1, nm_Fr [(219, 0, 400)] M M1 → (∀ i, 0 ≤ i → i < 400 → am_gt M1 219 i = if i < (j : Int) then am_gt M 219 (i + 25) else am_gt M 219 i) → am_WP d am_c150 11 [(2, 214), (0, kind), (0, (j : Int))] [] M1 Q := by
    refine nm_dn ?_
    intro j hj ih M1 F a1
    have hL1 := nm_Lay_fr hL F (by decide +kernel)
    refine h_150_11 hL1 ⟨fun h => ?_, fun h => ?_⟩
    · have hj5 : j = 375 := by omega
      subst hj5
      have k2 : ∀ n : Nat, n ≤ 15 → ∀ M2, nm_Fr [(220, 0, 16)] M1 M2 → (∀ i, 0 ≤ i → i < 16 → am_gt M2 220 i = if i < (n : Int) then am_gt M 220 (i + 1) else am_gt M 220 i) → am_WP d am_c150 41 [(2, 214), (0, kind), (0, (n : Int))] [] M2 Q := by
        refine nm_dn ?_
        intro n hn ih2 M2 F2 a2
        have hL2 := nm_Lay_fr hL1 F2 (by decide +kernel)
        refine h_150_41 hL2 ⟨fun h => ⟨by omega, ?_⟩, fun h => ?_⟩
        · have hn5 : n = 15 := by omega
          subst hn5
          have e8 : am_gt M2 214 8 = 16 := by rw [nm_gt_frn F2 hL1 (by decide) (by decide), nm_gt_frn F hL (by decide) (by decide), u0, h16]; rfl
          rw [e8, am_w_id (by decide) (by decide)]
          have F3 : nm_Fr [(214, 8, 9), (219, 0, 400), (220, 0, 16)] M (am_st M2 214 8 15) := nm_Fr_st (nm_Fr_trans (nm_Fr_sub F (by decide)) (nm_Fr_sub F2 (by decide))) (by decide)
          have hl : (U.drop 1).length = 15 := by rw [List.length_drop, h16]
          have := fin (am_st M2 214 8 15) (U.drop 1) (0, ((15 : Nat) : Int)) F3 ?_ (by omega) (by unfold nm_keep; rw [if_pos h16])
          · rw [hl] at this; exact this
          · refine ⟨by rw [nm_st_eq, hl]; rfl, by omega, fun k hk => ?_⟩
            rw [hl] at hk
            have hx : (U.drop 1).getD k nm_u0 = U.getD (k + 1) nm_u0 := by
              rw [List.getD_eq_getElem?_getD, List.getElem?_drop, List.getD_eq_getElem?_getD, Nat.add_comm 1 k]
            obtain ⟨q1, q2, q3⟩ := u2 (k + 1) (by omega)
            have hc : ((k + 1 : Nat) : Int) = (k : Int) + 1 := by omega
            rw [hc] at q1 q2 q3
            have ee : ∀ i, 4 ≤ i → i < 29 → am_gt (am_st M2 214 8 15) 219 (25 * (k : Int) + (i - 4)) = am_gt M 219 (25 * ((k : Int) + 1) + (i - 4)) := by
              intro i a b
              rw [nm_st_ne (by decide), nm_gt_frn F2 hL1 (by decide) (by decide), a1 _ (by omega) (by omega), if_pos (by omega), show 25 * (k : Int) + (i - 4) + 25 = 25 * ((k : Int) + 1) + (i - 4) by omega]
            rw [hx]
            refine ⟨by rw [nm_st_ne (by decide), a2 _ (by omega) (by omega), if_pos (by omega)]; exact q1, nm_MW_kp2 q2 (fun i a b => ?_), fun i a b => ?_⟩
            · rw [nm_mr_gt, nm_mr_gt]; exact ee i a b
            · rw [ee i (by omega) (by omega)]; exact q3 i a b
        · have e1 : am_gt M2 220 ((n : Int) + 1) = am_gt M 220 ((n : Int) + 1) := by rw [a2 _ (by omega) (by omega), if_neg (by omega)]
          rw [am_w_id (x := (n : Int) + 1) (by omega) (by omega), e1]
          refine ⟨by omega, by omega, by omega, by omega, ?_⟩
          have := ih2 (by omega) (am_st M2 220 (n : Int) (am_gt M 220 ((n : Int) + 1))) (nm_Fr_st F2 (nm_in_c (lo := 0) (hi := 16) (by decide) (by omega) (by omega))) (fun i x y => by
            rw [nm_gt_st]
            by_cases hi : i = (n : Int)
            · subst hi; rw [if_pos ⟨rfl, rfl⟩, if_pos (by omega)]
            · rw [if_neg (fun c => hi c.2), a2 i x y]
              by_cases h2 : i < (n : Int)
              · rw [if_pos h2, if_pos (by omega)]
              · rw [if_neg h2, if_neg (by omega)])
          rw [show ((n + 1 : Nat) : Int) = (n : Int) + 1 by omega] at this
          exact this
      exact k2 0 (Nat.zero_le _) M1 (nm_Fg_refl _ _) (fun i x y => by rw [if_neg (by omega), nm_gt_frn F hL (by decide) (by decide)])
    · have e1 : am_gt M1 219 ((j : Int) + 25) = am_gt M 219 ((j : Int) + 25) := by rw [a1 _ (by omega) (by omega), if_neg (by omega)]
      rw [am_w_id (x := (j : Int) + 25) (by omega) (by omega), am_w_id (x := (j : Int) + 1) (by omega) (by omega), e1]
      refine ⟨by omega, by omega, by omega, by omega, ?_⟩
      have := ih (by omega) (am_st M1 219 (j : Int) (am_gt M 219 ((j : Int) + 25))) (nm_Fr_st F (nm_in_c (lo := 0) (hi := 400) (by decide) (by omega) (by omega))) (fun i x y => by
        rw [nm_gt_st]
        by_cases hi : i = (j : Int)
        · subst hi; rw [if_pos ⟨rfl, rfl⟩, if_pos (by omega)]
        · rw [if_neg (fun c => hi c.2), a1 i x y]
          by_cases h2 : i < (j : Int)
          · rw [if_pos h2, if_pos (by omega)]
          · rw [if_neg h2, if_neg (by omega)])
      rw [show ((j + 1 : Nat) : Int) = (j : Int) + 1 by omega] at this
      exact this
  exact k1 0 (Nat.zero_le _) M (nm_Fg_refl _ _) (fun i x y => by rw [if_neg (by omega)])
/-! CALLS OF THE REFERENCE, the plain ones -/
theorem nm_MU_S {M : am_M} {S S' : Int → Int} {U : List (Int × nm_W)} (h : nm_MU M S U) (e : ∀ i, 5 ≤ i → i ≤ 7 → S' i = S i) : nm_MU M S' U :=
  ⟨h.1, h.2.1, fun k hk => ⟨(h.2.2 k hk).1, (h.2.2 k hk).2.1, fun i a b => by rw [e i a b]; exact (h.2.2 k hk).2.2 i a b⟩⟩
theorem nm_MU_nil {M : am_M} {S : Int → Int} (h : am_gt M 214 8 = 0) : nm_MU M S [] := ⟨h, by decide, fun k hk => absurd hk (by simp)⟩
theorem nm_MS_up {M : am_M} {S : Int → Int} {j v : Int} (h : nm_MS M S) : nm_MS (am_st M 216 j v) (nm_up S j v) := by
  intro i hi
  by_cases e : i = j
  · subst e; rw [nm_st_eq, nm_up_eq]
  · rw [nm_st_nj e, nm_up_ne e]; exact h i hi
theorem nm_MS_st {M : am_M} {S : Int → Int} {j v : Int} (h : nm_MS M S) (hj : ¬ nm_si j) : nm_MS (am_st M 216 j v) S := by
  intro i hi
  rw [nm_st_nj (fun e => hj (e ▸ hi))]; exact h i hi
theorem nm_MW_st {M : am_M} {W : nm_W} {j v : Int} (h : nm_MW M W) (hj : j < 4 ∨ (5 ≤ j ∧ j ≤ 7) ∨ 29 ≤ j) : nm_MW (am_st M 216 j v) W := by
  obtain ⟨h1, h2, h3, h4, h5, h6⟩ := h
  refine ⟨by rw [nm_st_nj (by omega)]; exact h1, by rw [nm_st_nj (by omega)]; exact h2, h3, fun p hp => by rw [nm_st_nj (by omega)]; exact h4 p hp, fun m a b => by rw [nm_st_nj (by omega)]; exact h5 m a b, fun p a b => by rw [nm_st_nj (by omega)]; exact h6 p a b⟩
theorem nm_MX_st {M : am_M} {S S' : Int → Int} {D : Int → nm_T} {j v : Int} (h : nm_MX M S D) (hj : j < 110) (e : S' 2 = S 2) : nm_MX (am_st M 216 j v) S' D := by
  intro k k0 k1
  rw [e] at k1
  exact nm_MT_kp (h k k0 k1) (by omega) (fun i hi => nm_st_nj (by omega))
theorem nm_MW_n {M : am_M} {W : nm_W} {v : Int} (h : nm_MW M W) : nm_MW (am_st M 216 4 v) (v, W.2) := by
  obtain ⟨h1, h2, h3, h4, h5, h6⟩ := h
  refine ⟨nm_st_eq, by rw [nm_st_nj (by omega)]; exact h2, h3, fun p hp => by rw [nm_st_nj (by omega)]; exact h4 p hp, fun m a b => by rw [nm_st_nj (by omega)]; exact h5 m a b, fun p a b => by rw [nm_st_nj (by omega)]; exact h6 p a b⟩
theorem nm_MW_s {M : am_M} {W : nm_W} {m v : Int} (h : nm_MW M W) (m0 : 0 ≤ m) (m6 : m < 6) : nm_MW (am_st M 216 (15 + m) v) (W.1, W.2.1, nm_up W.2.2.1 m v, W.2.2.2) := by
  obtain ⟨h1, h2, h3, h4, h5, h6⟩ := h
  refine ⟨by rw [nm_st_nj (by omega)]; exact h1, by rw [nm_st_nj (by omega)]; exact h2, h3, fun p hp => by rw [nm_st_nj (by omega)]; exact h4 p hp, fun k a b => ?_, fun p a b => by rw [nm_st_nj (by omega)]; exact h6 p a b⟩
  show _ = nm_up W.2.2.1 m v k
  by_cases e : k = m
  · subst e; rw [nm_st_eq, nm_up_eq]
  · rw [nm_st_nj (by omega), nm_up_ne e]; exact h5 k a b
theorem nm_MW_t {M : am_M} {W : nm_W} {m v : Int} (h : nm_MW M W) (m0 : 0 ≤ m) (m8 : m < 8) : nm_MW (am_st M 216 (21 + m) v) (W.1, W.2.1, W.2.2.1, nm_up W.2.2.2 m v) := by
  obtain ⟨h1, h2, h3, h4, h5, h6⟩ := h
  refine ⟨by rw [nm_st_nj (by omega)]; exact h1, by rw [nm_st_nj (by omega)]; exact h2, h3, fun p hp => by rw [nm_st_nj (by omega)]; exact h4 p hp, fun k a b => by rw [nm_st_nj (by omega)]; exact h5 k a b, fun k a b => ?_⟩
  show _ = nm_up W.2.2.2 m v k
  by_cases e : k = m
  · subst e; rw [nm_st_eq, nm_up_eq]
  · rw [nm_st_nj (by omega), nm_up_ne e]; exact h6 k a b
/-- one number of the state changed -/
theorem nm_M_up {M : am_M} {X : nm_X} {j v : Int} (hok : nm_ok X) (h : nm_M M X) (hj : nm_si j) (hj2 : j < 4 ∨ 29 ≤ j) (hj3 : j ≠ 2) (hO : nm_okS (nm_up (nx_S X) j v)) : nm_M (am_st M 216 j v) (ns_S X (nm_up (nx_S X) j v)) := by
  have F : nm_Fr [(216, 0, 110)] M (am_st M 216 j v) := nm_Fr_st (nm_Fg_refl _ _) (nm_in_c (lo := 0) (hi := 110) (by decide) (by unfold nm_si at hj; omega) (by unfold nm_si at hj; omega))
  obtain ⟨m1, m2, m3, m4, m5, m6⟩ := h
  have hL := m1.1
  obtain ⟨a1, a2, a3, a4, a5, a6⟩ := m1
  exact ⟨⟨nm_Lay_fr hL F (by decide +kernel), nm_MS_up a2, nm_MW_st a3 (by unfold nm_si at hj; omega), hO, nm_MX_st a5 (by unfold nm_si at hj; omega) (nm_up_ne (fun e => hj3 e.symm)), by rw [nm_st_ne (by decide)]; exact a6⟩, fun k a b => ⟨(nm_gt_frn F hL (by decide) (by decide +kernel)).trans (m2 k a b).1, fun e => nm_MI_fr (nm_ok_I hok a b e) ((m2 k a b).2 e) hL F (by decide +kernel)⟩, nm_MU_S (nm_MU_fr m3 hL F (by decide +kernel) (by decide +kernel) (by decide +kernel)) (fun i a b => nm_up_ne (by omega)), nm_MP_fr m4 hL F (by decide +kernel) (by decide +kernel), nm_MR_fr m5 hL F (by decide +kernel) (by decide +kernel), nm_MY_fr m6 hL F (by decide +kernel)⟩
/-- the same, through change -/
theorem nmy_146 {d : Nat} {j v : Int} {X : nm_X} {M : am_M} {Q : List am_V → am_M → Prop} (hok : nm_ok X) (hM : nm_M M X) (hj : nm_si j) (hj2 : j < 4 ∨ 29 ≤ j) (hj3 : j ≠ 2) (hO : nm_okS (nm_up (nx_S X) j v)) (hQ : ∀ M', nm_Fr [(216, 0, 110), (214, 1, 2)] M M' → nm_M M' (nx_fn (ns_S X (nm_up (nx_S X) j v))) → Q [(0, nx_S X j)] M') : am_CL d 146 [(2, 214), (0, j), (0, v)] M Q := by
  have hb : 0 ≤ j ∧ j < 110 := by unfold nm_si at hj; omega
  refine h_146_0 (nm_M_L hM) ⟨by omega, by omega, ?_⟩
  rw [hM.1.2.1 j hj]
  have C1 := nm_M_up (v := v) hok hM hj hj2 hj3 hO
  have F1 : nm_Fr [(216, 0, 110), (214, 1, 2)] M (am_st M 216 j v) := nm_Fr_st (nm_Fg_refl _ _) (nm_in_c (lo := 0) (hi := 110) (by decide) hb.1 hb.2)
  refine hQ _ (nm_Fr_st F1 (by decide)) ?_
  have F : nm_Fr [(214, 1, 2)] (am_st M 216 j v) (am_st (am_st M 216 j v) 214 1 0) := nm_Fr_st (nm_Fg_refl _ _) (by decide)
  have hM1 := C1
  have hL := nm_M_L C1
  obtain ⟨m1, m2, m3, m4, m5, m6⟩ := hM1
  have hok' : nm_ok X := hok
  obtain ⟨r0, r1, r2, r3, r4, r5⟩ := m5
  exact ⟨nm_MA_fr m1 F (by decide +kernel) (by decide +kernel) (by decide +kernel), fun k a b => ⟨(nm_gt_frn F hL (by decide) (by decide +kernel)).trans (m2 k a b).1, fun e => nm_MI_fr (nm_ok_I hok' a b e) ((m2 k a b).2 e) hL F (by decide +kernel)⟩, nm_MU_fr m3 hL F (by decide +kernel) (by decide +kernel) (by decide +kernel), nm_MP_fr m4 hL F (by decide +kernel) (by decide +kernel), ⟨by rw [nm_st_eq]; exact (nm_up_eq _ _ _).symm, fun j a b c => by rw [nm_st_ne (by decide)]; show _ = nm_up _ 0 0 j; rw [nm_up_ne (by omega)]; exact r1 j a b c, by rw [nm_st_nj (by decide)]; exact r2, by rw [nm_st_nj (by decide)]; exact r3, by rw [nm_st_nj (by decide)]; exact r4, by rw [nm_st_nj (by decide)]; exact r5⟩, nm_MY_fr m6 hL F (by decide +kernel)⟩
theorem nmq_12 {d : Nat} {X : nm_X} {M : am_M} {Q : List am_V → am_M → Prop} (hok : nm_ok X) (hM : nm_M M X) (hQ : nm_KM (sp_12 X).1 [(0, (sp_12 X).2)] M Q) : am_CL d 169 [(2, 214)] M Q := by
  refine h_169_0 (nm_M_L hM) ?_
  rw [show am_gt M 214 11 = nx_R X 7 from hM.2.2.2.2.1.2.2.1]; exact hQ _ nm_m0F (nm_m0 hok hM)
theorem nmq_15 {d : Nat} {X : nm_X} {M : am_M} {Q : List am_V → am_M → Prop} (hok : nm_ok X) (hM : nm_M M X) (hQ : nm_KM (sp_15 X).1 [(0, (sp_15 X).2)] M Q) : am_CL d 181 [(2, 214)] M Q := by
  refine h_181_0 (nm_M_L hM) ?_
  rw [show am_gt M 214 18 = nx_R X 8 from hM.2.2.2.2.1.2.2.2.1]; exact hQ _ nm_m0F (nm_m0 hok hM)
theorem nmq_16 {d : Nat} {X : nm_X} {M : am_M} {Q : List am_V → am_M → Prop} (hok : nm_ok X) (hM : nm_M M X) (hQ : nm_KM (sp_16 X).1 [(0, (sp_16 X).2)] M Q) : am_CL d 256 [(2, 214)] M Q := by
  refine h_256_0 (nm_M_L hM) ?_
  rw [show am_gt M 214 54 = nx_R X 9 from hM.2.2.2.2.1.2.2.2.2.1]; exact hQ _ nm_m0F (nm_m0 hok hM)
theorem nmq_42 {d : Nat} {X : nm_X} {M : am_M} {Q : List am_V → am_M → Prop} (hok : nm_ok X) (hM : nm_M M X) (hQ : nm_KM (sp_42 X).1 [(0, (sp_42 X).2)] M Q) : am_CL d 261 [(2, 214)] M Q := by
  refine h_261_0 (nm_M_L hM) ?_
  rw [show am_gt M 214 1 = nx_R X 0 from hM.2.2.2.2.1.1]; exact hQ _ nm_m0F (nm_m0 hok hM)
/-- mirror -/
theorem nm_up_comm {S : Int → Int} {i j x y : Int} (h : i ≠ j) : nm_up (nm_up S i x) j y = nm_up (nm_up S j y) i x := by
  funext k
  unfold nm_up
  by_cases h1 : k = j
  · rw [if_pos h1, if_neg (by omega), if_pos h1]
  · rw [if_neg h1]
    by_cases h2 : k = i
    · rw [if_pos h2, if_pos h2]
    · rw [if_neg h2, if_neg h2, if_neg h1]
theorem nm_dg_comm {b j x : Int} : ∀ {k : Nat} {v : Int} {S : Int → Int}, (j < b ∨ b + (k : Int) ≤ j) → nm_dg b k v (nm_up S j x) = nm_up (nm_dg b k v S) j x
  | 0, _, _, _ => rfl
  | k + 1, v, S, h => by
    show nm_dg b k (v / 10) (nm_up (nm_up S j x) (b + (k : Int)) (v % 10 - 1)) = nm_up (nm_dg b k (v / 10) (nm_up S (b + (k : Int)) (v % 10 - 1))) j x
    rw [nm_up_comm (by omega), nm_dg_comm (by omega)]
theorem nmq_1 {d : Nat} {v b s : Int} {X : nm_X} {M : am_M} {Q : List am_V → am_M → Prop} (hd : 3 ≤ d) (hv : am_i32 v) (hok : nm_ok X) (hM : nm_M M X) (hQ : nm_KM (sp_1 X v b s).1 [(0, (sp_1 X v b s).2)] M Q) : am_CL d 159 [(2, 214), (0, v), (0, b), (0, s)] M Q := by
  have F0 := nm_m0F (M := M)
  have hM0 := nm_m0 hok hM
  have hM1 := hM0
  have hL := nm_M_L hM0
  refine h_159_0 (nm_M_L hM) ⟨by omega, nmm_158 (by omega) hL ?_⟩
  generalize am_st M 214 0 0 = M0 at F0 hM0 hM1 hL ⊢
  obtain ⟨m1, m2, m3, m4, m5, m6⟩ := hM1
  obtain ⟨a1, hS, hW, hO, hX, a6⟩ := m1
  have o0 := hO.1
  have hpi := nm_pc_in (v := v)
  have e0 : am_gt M0 216 0 = nx_S X 0 := hS 0 (by unfold nm_si; omega)
  have R1 : ∀ x : Int, (nm_pc v = 0 ∨ b < 0 ∨ 7 < b ∨ s < 1 ∨ 30 < s) → 0 < d ∧ am_CL (d - 1) 145 [(2, 214), (0, (-1))] M0 (fun r M' => am_WP d am_c159 46 [(2, 214), (0, v), (0, b), (0, s), (0, x), (9, 0), (9, 0), (9, 0)] (r ++ []) M' Q) := by
    intro x h
    unfold sp_1 at hQ; rw [if_pos h] at hQ
    exact ⟨by omega, nmq_ref (k := 159) hok (by decide) F0 hM0 (fun M' L q => h_159_46 L q) hQ⟩
  by_cases hp : nm_pc v = 0
  · rw [if_pos hp]
    exact h_159_9 hL ⟨fun _ => R1 _ (.inl hp), fun h => absurd rfl h⟩
  rw [if_neg hp]
  refine h_159_9 hL ⟨fun h => absurd h (by omega), fun _ => ⟨by omega, nmm_142 hL (fun b0 b1 => ?_) (fun b0 => h_159_26 hL ⟨fun _ => R1 _ (by omega), fun h => absurd rfl h⟩)⟩⟩
  refine h_159_26 hL ⟨fun h => absurd h (by decide), fun _ => ⟨by omega, nmm_142 hL (fun c0 c1 => ?_) (fun c0 => h_159_38 hL ⟨fun h => absurd rfl h, fun _ => R1 _ (by omega)⟩)⟩⟩
  refine h_159_38 hL ⟨fun _ => ?_, fun h => absurd h (by decide)⟩
  rw [e0]
  refine ⟨fun h6 => ?_, fun h6 => ?_⟩
  · unfold sp_1 at hQ; rw [if_neg (by omega), if_neg (by omega)] at hQ
    have h6' : nx_S X 0 < 6 := by omega
    rw [am_w_id (x := 29 + nx_S X 0) (by omega) (by omega), am_w_id (x := nm_pc v - 1) (by omega) (by omega)]
    refine ⟨by omega, by omega, ?_⟩
    have lay : ∀ {M'}, nm_Fr [(216, 0, 110)] M0 M' → nm_Lay M' := fun F => nm_Lay_fr hL F (by decide +kernel)
    have key : ∀ k : Nat, (k : Int) ≤ nm_pc v → ∀ (rest : Int) (M1 : am_M) (S1 : Int → Int), 0 ≤ rest → rest ≤ 2147483647 → nm_Fr [(216, 0, 110)] M0 M1 → nm_MS M1 S1 → nm_MW M1 (nx_W X) → nm_MX M1 S1 (nx_D X) → S1 0 = nx_S X 0 → S1 2 = nx_S X 2 → nm_dg (35 + 5 * nx_S X 0) k rest S1 = nm_up (nm_dg (35 + 5 * nx_S X 0) (nm_pc v).toNat v (nx_S X)) (29 + nx_S X 0) (nm_pc v) → am_WP d am_c159 90 [(2, 214), (0, v), (0, b), (0, s), (0, nm_pc v), (0, nx_S X 0), (0, rest), (0, (k : Int) - 1)] [] M1 Q := by
      intro k
      induction k with
      | zero =>
        intro hk rest M1 S1 r0 r1 F S1h W1 X1 z0 z2 e
        have e' : S1 = nm_up (nm_dg (35 + 5 * nx_S X 0) (nm_pc v).toNat v (nx_S X)) (29 + nx_S X 0) (nm_pc v) := e
        refine h_159_90 (lay F) ⟨fun _ => ?_, fun h => absurd h (by decide)⟩
        rw [am_w_id (x := 65 + nx_S X 0) (by omega) (by omega)]
        refine ⟨by omega, by omega, ?_⟩
        have F2 := nm_Fr_st (a := 216) (i := 65 + nx_S X 0) (v := b) F (nm_in_c (lo := 0) (hi := 110) (by decide) (by omega) (by omega))
        have S2 := nm_MS_up (j := 65 + nx_S X 0) (v := b) S1h
        have W2 := nm_MW_st (j := 65 + nx_S X 0) (v := b) W1 (by omega)
        have X2 := nm_MX_st (S' := nm_up S1 (65 + nx_S X 0) b) (j := 65 + nx_S X 0) (v := b) X1 (by omega) (nm_up_ne (by omega))
        refine h_159_141 (lay F2) ?_
        rw [am_w_id (x := 15 + nx_S X 0) (by omega) (by omega)]
        refine ⟨by omega, by omega, ?_⟩
        have F3 := nm_Fr_st (a := 216) (i := 15 + nx_S X 0) (v := s) F2 (nm_in_c (lo := 0) (hi := 110) (by decide) (by omega) (by omega))
        have S3 := nm_MS_st (j := 15 + nx_S X 0) (v := s) S2 (by unfold nm_si; omega)
        have W3 := nm_MW_s (m := nx_S X 0) (v := s) W2 (by omega) (by omega)
        have X3 := nm_MX_st (S' := nm_up S1 (65 + nx_S X 0) b) (j := 15 + nx_S X 0) (v := s) X2 (by omega) rfl
        refine h_159_152 (lay F3) ?_
        rw [am_w_id (x := 71 + nx_S X 0) (by omega) (by omega)]
        have F4 := nm_Fr_st (a := 216) (i := 71 + nx_S X 0) (v := 0) F3 (nm_in_c (lo := 0) (hi := 110) (by decide) (by omega) (by omega))
        have S4 := nm_MS_up (j := 71 + nx_S X 0) (v := 0) S3
        have W4 := nm_MW_st (j := 71 + nx_S X 0) (v := 0) W3 (by omega)
        have X4 := nm_MX_st (S' := nm_up (nm_up S1 (65 + nx_S X 0) b) (71 + nx_S X 0) 0) (j := 71 + nx_S X 0) (v := 0) X3 (by omega) (nm_up_ne (by omega))
        have z4 : am_gt (am_st (am_st (am_st M1 216 (65 + nx_S X 0) b) 216 (15 + nx_S X 0) s) 216 (71 + nx_S X 0) 0) 216 0 = nx_S X 0 := by
          rw [S4 0 (by unfold nm_si; omega), nm_up_ne (by omega), nm_up_ne (by omega)]; exact z0
        rw [z4, am_w_id (x := nx_S X 0 + 1) (by omega) (by omega)]
        refine ⟨by omega, by omega, by omega, ?_⟩
        have F5 := nm_Fr_st (a := 216) (i := 0) (v := nx_S X 0 + 1) F4 (by decide)
        have S5 := nm_MS_up (j := 0) (v := nx_S X 0 + 1) S4
        have W5 := nm_MW_st (j := 0) (v := nx_S X 0 + 1) W4 (by omega)
        have X5 := nm_MX_st (S' := nm_up (nm_up (nm_up S1 (65 + nx_S X 0) b) (71 + nx_S X 0) 0) 0 (nx_S X 0 + 1)) (j := 0) (v := nx_S X 0 + 1) X4 (by omega) (nm_up_ne (by omega))
        have eS : nm_up (nm_up (nm_up S1 (65 + nx_S X 0) b) (71 + nx_S X 0) 0) 0 (nx_S X 0 + 1) = nm_addS (nx_S X) v (nm_pc v) b := by rw [e']; rfl
        rw [eS] at S5 X5
        generalize am_st (am_st (am_st (am_st M1 216 (65 + nx_S X 0) b) 216 (15 + nx_S X 0) s) 216 (71 + nx_S X 0) 0) 216 0 (nx_S X 0 + 1) = M5 at F5 S5 W5 X5 ⊢
        have hL5 := lay F5
        refine h_147_0 hL5 ⟨fun _ => ⟨by omega, ?_⟩, fun h => absurd o0.1 h⟩
        have F6 : nm_Fr [(216, 0, 110), (214, 8, 9)] M0 (am_st M5 214 8 0) := nm_Fr_st (nm_Fr_sub F5 (by decide)) (by decide)
        have hok1 := hok
        have C6 : nm_M (am_st M5 214 8 0) (ns_U (ns_W (ns_S X (nm_addS (nx_S X) v (nm_pc v) b)) ((nx_W X).1, (nx_W X).2.1, nm_up (nx_W X).2.2.1 (nx_S X 0) s, (nx_W X).2.2.2)) []) :=
          ⟨⟨nm_Lay_fr hL F6 (by decide +kernel), fun i hi => by rw [nm_st_ne (by decide)]; exact S5 i hi, nm_MW_kp W5 (fun i => nm_st_ne (by decide)), nm_okS_add hO h6' hp b0 b1, nm_MX_kp X5 (fun i _ => nm_st_ne (by decide)), by rw [nm_gt_frd (g := [(214, 20, 21)]) F6 hL (by decide) (by decide +kernel) (by decide +kernel)]; exact a6⟩, fun k a b => ⟨(nm_gt_frn F6 hL (by decide) (by decide +kernel)).trans (m2 k a b).1, fun e => nm_MI_fr (nm_ok_I hok a b e) ((m2 k a b).2 e) hL F6 (by decide +kernel)⟩, nm_MU_nil nm_st_eq, nm_MP_fr m4 hL F6 (by decide +kernel) (by decide +kernel), nm_MR_fr m5 hL F6 (by decide +kernel) (by decide +kernel), nm_MY_fr m6 hL F6 (by decide +kernel)⟩
        refine nmm_145 (R := nx_R X) (by omega) (nm_M_L C6) C6.2.2.2.2.1 (fun M7 F7 r7 => ?_)
        have hL7 := nm_Lay_fr (nm_M_L C6) F7 (by decide +kernel)
        refine h_147_21 hL7 (h_159_179 hL7 (hQ M7 (nm_Fr_trans F0 (nm_Fr_trans (nm_mF F6 (by decide +kernel)) (nm_mF F7 (by decide +kernel)))) ?_))
        have hM1 := C6
        have hL := nm_M_L C6
        obtain ⟨m1, m2, m3, m4, m5, m6⟩ := hM1
        have r8 : nm_MR M7 (nm_fn1 (nx_R X)) := by unfold nm_tl1 at r7; rw [if_neg (by omega)] at r7; exact r7
        exact ⟨nm_MA_fr m1 F7 (by decide +kernel) (by decide +kernel) (by decide +kernel), fun k a b => ⟨(nm_gt_frn F7 hL (by decide) (by decide +kernel)).trans (m2 k a b).1, fun e => nm_MI_fr (nm_ok_I hok1 a b e) ((m2 k a b).2 e) hL F7 (by decide +kernel)⟩, nm_MU_fr m3 hL F7 (by decide +kernel) (by decide +kernel) (by decide +kernel), nm_MP_fr m4 hL F7 (by decide +kernel) (by decide +kernel), r8, nm_MY_fr m6 hL F7 (by decide +kernel)⟩
      | succ k ih =>
        intro hk rest M1 S1 r0 r1 F S1h W1 X1 z0 z2 e
        refine h_159_90 (lay F) ⟨fun h => absurd h (by omega), fun _ => ?_⟩
        rw [am_w_id (x := 5 * nx_S X 0) (by omega) (by omega), am_w_id (x := 35 + 5 * nx_S X 0) (by omega) (by omega), am_w_id (x := 35 + 5 * nx_S X 0 + _) (by omega) (by omega), nm_td r0, nm_tm r0, am_w_id (x := rest / 10) (by omega) (by omega), am_w_id (x := rest % 10 - 1) (by omega) (by omega), am_w_id (x := _ + -1) (by omega) (by omega)]
        refine ⟨by omega, by omega, ?_⟩
        have hx : 35 + 5 * nx_S X 0 + (((k + 1 : Nat) : Int) - 1) = 35 + 5 * nx_S X 0 + (k : Int) := by omega
        have hy : ((k + 1 : Nat) : Int) - 1 + -1 = (k : Int) - 1 := by omega
        rw [hx, hy]
        exact ih (by omega) (rest / 10) _ (nm_up S1 (35 + 5 * nx_S X 0 + (k : Int)) (rest % 10 - 1)) (by omega) (by omega) (nm_Fr_st F (nm_in_c (lo := 0) (hi := 110) (by decide) (by omega) (by omega))) (nm_MS_up S1h) (nm_MW_st W1 (by omega)) (nm_MX_st X1 (by omega) (nm_up_ne (by omega))) (by rw [nm_up_ne (by omega)]; exact z0) (by rw [nm_up_ne (by omega)]; exact z2) e
    have := key (nm_pc v).toNat (by omega) v (am_st M0 216 (29 + nx_S X 0) (nm_pc v)) (nm_up (nx_S X) (29 + nx_S X 0) (nm_pc v)) (by have := (nm_pc_dig hp).1; omega) hv.2 (nm_Fr_st (nm_Fg_refl _ _) (nm_in_c (lo := 0) (hi := 110) (by decide) (by omega) (by omega))) (nm_MS_up hS) (nm_MW_st hW (by omega)) (nm_MX_st hX (by omega) (nm_up_ne (by omega))) (nm_up_ne (by omega)) (nm_up_ne (by omega)) (nm_dg_comm (by omega))
    rw [show (((nm_pc v).toNat : Nat) : Int) - 1 = nm_pc v - 1 by omega] at this
    exact this
  · unfold sp_1 at hQ; rw [if_neg (by omega), if_pos (by omega)] at hQ
    exact ⟨by omega, nmq_ref (k := 159) hok (by decide) F0 hM0 (fun M' L q => h_159_68 L q) hQ⟩
