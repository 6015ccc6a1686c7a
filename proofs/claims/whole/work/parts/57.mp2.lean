/-! CALLS OF THE REFERENCE, more plain ones -/
/-- of -/
theorem nmq_2 {d : Nat} {m k : Int} {X : nm_X} {M : am_M} {Q : List am_V → am_M → Prop} (hd : 8 ≤ d) (hk : am_i32 k) (hok : nm_ok X) (hM : nm_M M X) (hQ : nm_KM (sp_2 X m k).1 [(0, (sp_2 X m k).2)] M Q) : am_CL d 160 [(2, 214), (0, m), (0, k)] M Q := by
  have F0 := nm_m0F (M := M)
  have hM0 := nm_m0 hok hM
  have hM1 := hM0
  have hL := nm_M_L hM0
  refine h_160_0 (nm_M_L hM) ⟨by omega, ?_⟩
  generalize am_st M 214 0 0 = M0 at F0 hM0 hM1 hL ⊢
  obtain ⟨m1, m2, m3, m4, m5, m6⟩ := hM1
  have m1' := m1
  obtain ⟨a1, hS, hW, hO, hX, a6⟩ := m1
  have o0 := hO.1
  have oW : nm_okW (nx_S X 0) (nx_W X) := hok.1.2.2.1
  have q := hQ M0 F0 hM0
  unfold sp_2 at hQ q
  simp only at hQ q
  refine nmm_154 (by omega) hL hS hO (fun a0 a1 => ?_) (fun a0 => ?_)
  · rw [if_pos (by omega)] at hQ q
    have l := hO.2.2.2.2.2.2.2.1 m a0 a1
    have w1 : am_w (29 + m) = 29 + m := am_w_id (by omega) (by omega)
    have w2 : am_w (65 + m) = 65 + m := am_w_id (by omega) (by omega)
    have w3 : am_w (15 + m) = 15 + m := am_w_id (by omega) (by omega)
    refine h_160_10 hL ⟨fun _ => ⟨by omega, nmm_142 hL (fun b0 b1 => ?_) (fun b0 => ?_)⟩, fun h => absurd h (by decide)⟩
    · refine h_160_26 hL ⟨fun h => absurd h (by decide), fun _ => ?_⟩
      rw [w1, hS (29 + m) (by unfold nm_si; omega), am_w_id (x := k - 5) (by omega) (by omega)]
      refine ⟨by omega, by omega, ?_⟩
      rw [if_neg (by omega), if_neg (by omega), if_neg (by omega), if_neg (by omega), if_neg (by omega)] at q
      refine ⟨fun h6 => ?_, fun h6 => ?_⟩
      · rw [if_neg (by omega)] at q; exact q
      · rw [if_pos (by omega)] at q
        rw [am_w_id (x := 5 * m) (by omega) (by omega), am_w_id (x := 35 + 5 * m) (by omega) (by omega), am_w_id (x := 35 + 5 * m + k) (by omega) (by omega), am_w_id (x := 35 + 5 * m + k - 5) (by omega) (by omega), hS (35 + 5 * m + k - 5) (by unfold nm_si; omega), show 35 + 5 * m + k - 5 = 35 + (5 * m + (k - 5)) by omega]
        exact ⟨by omega, by omega, q⟩
    · refine h_160_26 hL ⟨fun _ => ?_, fun h => absurd rfl h⟩
      rw [w1, w2, w3, hS (29 + m) (by unfold nm_si; omega), hS (65 + m) (by unfold nm_si; omega), hW.2.2.2.2.1 m a0 (by omega)]
      refine ⟨fun h0 => ⟨by omega, by omega, ?_⟩, fun h0 => ⟨fun h1 => ⟨by omega, by omega, ?_⟩, fun h1 => ⟨fun h2 => ⟨by omega, by omega, ?_⟩, fun h2 => ⟨fun h3 => ⟨by omega, nm_m157 hL hW oW.2.2.1 (h_160_135 hL ?_)⟩, fun h3 => ⟨fun h4 => ⟨by omega, nm_m209 (by omega) m1' oW a0 (by omega) (fun M1 F1 => h_160_141 (nm_Lay_fr hL F1 (by decide +kernel)) ?_)⟩, fun h4 => ?_⟩⟩⟩⟩⟩
      · rw [if_pos h0] at q; exact q
      · rw [if_neg h0, if_pos h1] at q; exact q
      · rw [if_neg h0, if_neg h1, if_pos h2] at q; exact q
      · rw [if_neg h0, if_neg h1, if_neg h2, if_pos h3] at q; exact q
      · rw [if_neg h0, if_neg h1, if_neg h2, if_neg h3, if_pos h4] at hQ
        exact hQ M1 (nm_Fr_trans F0 (nm_mF F1 (by decide +kernel))) (nm_M_fr hok hM0 F1 (by decide +kernel))
      · rw [if_neg h0, if_neg h1, if_neg h2, if_neg h3, if_neg h4, if_neg (by omega)] at q; exact q
  · rw [if_neg (by omega)] at q
    exact h_160_10 hL ⟨fun h => absurd rfl h, fun _ => q⟩
/-- at -/
theorem nmq_3 {d : Nat} {p : Int} {X : nm_X} {M : am_M} {Q : List am_V → am_M → Prop} (hd : 2 ≤ d) (hok : nm_ok X) (hM : nm_M M X) (hQ : nm_KM (sp_3 X p).1 [(0, (sp_3 X p).2)] M Q) : am_CL d 161 [(2, 214), (0, p)] M Q := by
  have F0 := nm_m0F (M := M)
  have hM0 := nm_m0 hok hM
  have hM1 := hM0
  have hL := nm_M_L hM0
  have hL' := nm_M_L hM
  have e8 : am_gt M 216 8 = ((nx_W X).2.1.length : Int) := hM.1.2.2.1.2.1
  have l6 : (nx_W X).2.1.length ≤ 6 := hM.1.2.2.1.2.2.1
  refine h_161_0 hL' ⟨by omega, ?_⟩
  rw [e8, am_wl_id (by omega) (by omega)]
  generalize am_st M 214 0 0 = M0 at F0 hM0 hM1 hL ⊢
  obtain ⟨m1, m2, m3, m4, m5, m6⟩ := hM1
  have m1' := m1
  obtain ⟨a1, hS, hW, hO, hX, a6⟩ := m1
  have q := hQ M0 F0 hM0
  unfold sp_3 at q
  simp only at q
  refine nmm_142 hL (fun b0 b1 => ?_) (fun b0 => ?_)
  · rw [if_pos (by omega)] at q
    refine h_161_21 hL ⟨fun h => absurd h (by decide), fun _ => ?_⟩
    rw [am_w_id (x := 9 + p) (by omega) (by omega)]
    have := hW.2.2.2.1 p.toNat (by omega)
    rw [show ((p.toNat : Nat) : Int) = p by omega] at this
    rw [this]
    exact ⟨by omega, by omega, q⟩
  · rw [if_neg (by omega)] at q
    exact h_161_21 hL ⟨fun _ => q, fun h => absurd rfl h⟩
/-- asks -/
theorem nmq_4 {d : Nat} {m p h w : Int} {X : nm_X} {M : am_M} {Q : List am_V → am_M → Prop} (hd : 9 ≤ d) (hok : nm_ok X) (hM : nm_M M X) (hQ : nm_KM (sp_4 X m p h w).1 [(0, (sp_4 X m p h w).2)] M Q) : am_CL d 162 [(2, 214), (0, m), (0, p), (0, h), (0, w)] M Q := by
  have F0 := nm_m0F (M := M)
  have hM0 := nm_m0 hok hM
  have hM1 := hM0
  have hL := nm_M_L hM0
  refine h_162_0 (nm_M_L hM) ⟨by omega, ?_⟩
  generalize am_st M 214 0 0 = M0 at F0 hM0 hM1 hL ⊢
  obtain ⟨m1, m2, m3, m4, m5, m6⟩ := hM1
  have m1' := m1
  obtain ⟨a1, hS, hW, hO, hX, a6⟩ := m1
  have o0 := hO.1
  have oW : nm_okW (nx_S X 0) (nx_W X) := hok.1.2.2.1
  have q := hQ M0 F0 hM0
  unfold sp_4 at hQ q
  simp only at hQ q
  refine nmm_154 (by omega) hL hS hO (fun a0 a1 => ?_) (fun a0 => ?_)
  · refine h_162_10 hL ⟨fun h => absurd h (by decide), fun _ => ⟨by omega, nmm_142 hL (fun b0 b1 => ?_) (fun b0 => ?_)⟩⟩
    · refine h_162_22 hL ⟨fun h => absurd h (by decide), fun _ => ⟨by omega, nmm_156 (by omega) hL (fun c0 c1 => ?_) (fun c0 => ?_)⟩⟩
      · rw [if_pos (by omega)] at hQ q
        refine h_162_29 hL ⟨fun h => absurd h (by decide), fun _ => ⟨by omega, nmm_142 hL (fun d0 d1 => ?_) (fun d0 => ?_)⟩⟩
        · refine h_162_40 hL ⟨fun _ => ⟨fun w0 => ⟨by omega, nm_m211 (by omega) m1' oW a0 (by omega) (by omega) (fun M1 F1 => ?_)⟩, fun w0 => ⟨by omega, nm_m208 (by omega) m1' oW a0 a1 (by omega) (by omega) (fun M1 F1 => h_162_57 (nm_Lay_fr hL F1 (by decide +kernel)) ?_)⟩⟩, fun h => absurd h (by decide)⟩
          · rw [if_pos (by omega)] at hQ
            have := hQ M1 (nm_Fr_trans F0 (nm_mF F1 (by decide +kernel))) (nm_M_fr hok hM0 F1 (by decide +kernel))
            have hL1 := nm_Lay_fr hL F1 (by decide +kernel)
            cases hb : nm_bar (nx_S X) (nx_W X) (nm_lwf (nx_S X) (nx_D X)) m p
            · rw [hb] at this; exact h_162_66 hL1 ⟨fun _ => this, fun h => absurd rfl h⟩
            · rw [hb] at this; exact h_162_66 hL1 ⟨fun h => absurd h (by decide), fun _ => this⟩
          · rw [if_neg (by omega)] at hQ
            have := hQ M1 (nm_Fr_trans F0 (nm_mF F1 (by decide +kernel))) (nm_M_fr hok hM0 F1 (by decide +kernel))
            by_cases ph : p < h
            · rw [if_pos ⟨by omega, ph⟩] at this; rw [if_pos ph]; exact this
            · rw [if_neg (by omega)] at this; rw [if_neg ph]; exact this
        · rw [if_neg (by omega), if_neg (by omega)] at q
          exact h_162_40 hL ⟨fun h => absurd rfl h, fun _ => q⟩
      · rw [if_neg (by omega)] at q
        exact h_162_29 hL ⟨fun _ => q, fun h => absurd rfl h⟩
    · rw [if_neg (by omega)] at q
      exact h_162_22 hL ⟨fun _ => q, fun h => absurd rfl h⟩
  · rw [if_neg (by omega)] at q
    exact h_162_10 hL ⟨fun _ => q, fun h => absurd rfl h⟩
/-- part -/
theorem nmq_6 {d : Nat} {p k : Int} {X : nm_X} {M : am_M} {Q : List am_V → am_M → Prop} (hd : 8 ≤ d) (hok : nm_ok X) (hM : nm_M M X) (hQ : nm_KM (sp_6 X p k).1 [(0, (sp_6 X p k).2)] M Q) : am_CL d 164 [(2, 214), (0, p), (0, k)] M Q := by
  have F0 := nm_m0F (M := M)
  have hM0 := nm_m0 hok hM
  have hM1 := hM0
  have hL := nm_M_L hM0
  refine h_164_0 (nm_M_L hM) ⟨by omega, ?_⟩
  generalize am_st M 214 0 0 = M0 at F0 hM0 hM1 hL ⊢
  obtain ⟨m1, m2, m3, m4, m5, m6⟩ := hM1
  have m1' := m1
  obtain ⟨a1, hS, hW, hO, hX, a6⟩ := m1
  have oW : nm_okW (nx_S X 0) (nx_W X) := hok.1.2.2.1
  have q := hQ M0 F0 hM0
  unfold sp_6 at hQ q
  simp only at hQ q
  refine nmm_155 (by omega) hL (fun a0 a1 => ?_) (fun a0 => ?_)
  · rw [if_pos (by omega)] at hQ q
    refine h_164_9 hL ⟨fun _ => ?_, fun h => absurd h (by decide)⟩
    rw [am_w_id (x := 21 + p) (by omega) (by omega), am_w_id (x := 77 + p) (by omega) (by omega), hW.2.2.2.2.2 p a0 a1, hS (77 + p) (by unfold nm_si; omega)]
    refine ⟨fun h0 => ⟨by omega, by omega, ?_⟩, fun h0 => ⟨fun h1 => ⟨by omega, by omega, ?_⟩, fun h1 => ⟨fun h2 => ⟨by omega, nm_m210 (by omega) m1' oW (by omega) (fun M1 F1 => h_164_65 (nm_Lay_fr hL F1 (by decide +kernel)) ?_)⟩, fun h2 => ?_⟩⟩⟩
    · rw [if_pos h0] at q; exact q
    · rw [if_neg h0, if_pos h1] at q; exact q
    · rw [if_neg h0, if_neg h1, if_pos h2] at hQ
      exact hQ M1 (nm_Fr_trans F0 (nm_mF F1 (by decide +kernel))) (nm_M_fr hok hM0 F1 (by decide +kernel))
    · rw [if_neg h0, if_neg h1, if_neg h2] at q; exact q
  · rw [if_neg (by omega)] at q
    exact h_164_9 hL ⟨fun h => absurd rfl h, fun _ => q⟩
/-- clock -/
theorem nmq_7 {d : Nat} {p n : Int} {X : nm_X} {M : am_M} {Q : List am_V → am_M → Prop} (hd : 3 ≤ d) (hok : nm_ok X) (hM : nm_M M X) (hQ : nm_KM (sp_7 X p n).1 [(0, (sp_7 X p n).2)] M Q) : am_CL d 165 [(2, 214), (0, p), (0, n)] M Q := by
  have F0 := nm_m0F (M := M)
  have hM0 := nm_m0 hok hM
  have hM1 := hM0
  have hL := nm_M_L hM0
  refine h_165_0 (nm_M_L hM) ⟨by omega, ?_⟩
  generalize am_st M 214 0 0 = M0 at F0 hM0 hM1 hL ⊢
  obtain ⟨m1, m2, m3, m4, m5, m6⟩ := hM1
  have m1' := m1
  obtain ⟨a1, hS, hW, hO, hX, a6⟩ := m1
  have R1 : (p < 0 ∨ 8 ≤ p ∨ n < 0 ∨ 3 < n) → 0 < d ∧ am_CL (d - 1) 145 [(2, 214), (0, (-1))] M0 (fun r M' => am_WP d am_c165 41 [(2, 214), (0, p), (0, n)] (r ++ []) M' Q) := by
    intro h
    unfold sp_7 at hQ; rw [if_pos h] at hQ
    exact ⟨by omega, nmq_ref (k := 165) hok (by decide) F0 hM0 (fun M' L q => h_165_41 L q) hQ⟩
  refine nmm_155 (by omega) hL (fun a0 a1 => ?_) (fun a0 => h_165_9 hL ⟨fun _ => R1 (by omega), fun h => absurd rfl h⟩)
  refine h_165_9 hL ⟨fun h => absurd h (by decide), fun _ => ⟨by omega, nmm_142 hL (fun b0 b1 => ?_) (fun b0 => h_165_21 hL ⟨fun _ => R1 (by omega), fun h => absurd rfl h⟩)⟩⟩
  unfold sp_7 at hQ; rw [if_neg (by omega)] at hQ
  refine h_165_21 hL ⟨fun h => absurd h (by decide), fun _ => ⟨by omega, ?_⟩⟩
  rw [am_w_id (x := 77 + p) (by omega) (by omega)]
  refine nmy_146 hok hM0 (by unfold nm_si; omega) (by omega) (by omega) (nm_okS_up hO (by omega) (by omega) (by omega) (by omega) (by omega) (by omega) (by omega)) (fun M1 F1 C1 => ?_)
  have hL1 := nm_M_L C1
  exact h_165_33 hL1 (h_165_41 hL1 (hQ M1 (nm_Fr_trans F0 (nm_mF F1 (by decide +kernel))) C1))
/-- end -/
theorem nmq_10 {d : Nat} {n : Int} {X : nm_X} {M : am_M} {Q : List am_V → am_M → Prop} (hok : nm_ok X) (hM : nm_M M X) (hQ : nm_KM (sp_10 X n).1 [(0, (sp_10 X n).2)] M Q) : am_CL d 172 [(2, 214), (0, n)] M Q := by
  have F0 := nm_m0F (M := M)
  have hM0 := nm_m0 hok hM
  have hM1 := hM0
  have hL := nm_M_L hM0
  have e13 : am_gt M 214 13 = nx_L X := hM.2.2.2.1.1
  refine h_172_0 (nm_M_L hM) ?_
  rw [e13]
  unfold sp_10 at hQ
  refine ⟨fun h => ?_, fun h => ⟨fun h1 => ?_, fun h1 => ?_⟩⟩
  · rw [if_pos (by omega)] at hQ; exact hQ _ F0 hM0
  · rw [if_neg (by omega)] at hQ
    have F1 : nm_Fr [(214, 13, 14)] (am_st M 214 0 0) (am_st (am_st M 214 0 0) 214 13 n) := nm_Fr_st (nm_Fg_refl _ _) (by decide)
    refine hQ _ (nm_Fr_trans F0 (nm_mF F1 (by decide +kernel))) ?_
    obtain ⟨m1, m2, m3, m4, m5, m6⟩ := hM1
    exact ⟨nm_MA_fr m1 F1 (by decide +kernel) (by decide +kernel) (by decide +kernel), fun k a b => ⟨(nm_gt_frn F1 hL (by decide) (by decide +kernel)).trans (m2 k a b).1, fun e => nm_MI_fr (nm_ok_I hok a b e) ((m2 k a b).2 e) hL F1 (by decide +kernel)⟩, nm_MU_fr m3 hL F1 (by decide +kernel) (by decide +kernel) (by decide +kernel), ⟨nm_st_eq, fun i a b => (nm_st_ne (by decide)).trans (m4.2 i a (by have b1 : i < n := b; show i < nx_L X; omega))⟩, nm_MR_fr m5 hL F1 (by decide +kernel) (by decide +kernel), nm_MY_fr m6 hL F1 (by decide +kernel)⟩
  · rw [if_pos (by omega)] at hQ; exact hQ _ F0 hM0
/-- force -/
theorem nmm_201 {d : Nat} {l : Int} {S : Int → Int} {M : am_M} {Q : List am_V → am_M → Prop} (hd : 1 ≤ d) (hL : nm_Lay M) (hS : nm_MS M S) (hO : nm_okS S) (h1 : l = -1 ∨ (0 ≤ l ∧ l < S 2) → Q [(0, 1)] M) (h0 : ¬ (l = -1 ∨ (0 ≤ l ∧ l < S 2)) → Q [(0, 0)] M) : am_CL d 201 [(2, 214), (0, l)] M Q := by
  have e2 : am_gt M 216 2 = S 2 := hS 2 (by unfold nm_si; omega)
  have o2 := hO.2.2.1
  refine h_201_0 hL ⟨fun h => h1 (.inl h), fun h => ⟨by omega, ?_⟩⟩
  rw [e2, am_wl_id (by omega) (by omega)]
  exact nmm_142 hL (fun a b => h_201_20 hL ⟨fun h => absurd h (by decide), fun _ => h1 (by omega)⟩) (fun a => h_201_20 hL ⟨fun _ => h0 (by omega), fun h => absurd rfl h⟩)
theorem nmq_17 {d : Nat} {l : Int} {X : nm_X} {M : am_M} {Q : List am_V → am_M → Prop} (hd : 3 ≤ d) (hok : nm_ok X) (hM : nm_M M X) (hQ : nm_KM (sp_17 X l).1 [(0, (sp_17 X l).2)] M Q) : am_CL d 202 [(2, 214), (0, l)] M Q := by
  have F0 := nm_m0F (M := M)
  have hM0 := nm_m0 hok hM
  have hM1 := hM0
  have hL := nm_M_L hM0
  refine h_202_0 (nm_M_L hM) ⟨by omega, ?_⟩
  generalize am_st M 214 0 0 = M0 at F0 hM0 hM1 hL ⊢
  obtain ⟨m1, m2, m3, m4, m5, m6⟩ := hM1
  have m1' := m1
  obtain ⟨a1, hS, hW, hO, hX, a6⟩ := m1
  have o2 := hO.2.2.1
  unfold sp_17 at hQ
  refine nmm_201 (by omega) hL hS hO (fun h => ?_) (fun h => ?_)
  · rw [if_pos h] at hQ
    refine h_202_10 hL ⟨fun h => absurd h (by decide), fun _ => ⟨by omega, nmy_146 hok hM0 (by unfold nm_si; omega) (by omega) (by omega) (nm_okS_up hO (by omega) (by omega) (by omega) (by omega) (by omega) (by omega) (by omega)) (fun M1 F1 C1 => ?_)⟩⟩
    have hL1 := nm_M_L C1
    exact h_202_19 hL1 (h_202_28 hL1 (hQ M1 (nm_Fr_trans F0 (nm_mF F1 (by decide +kernel))) C1))
  · rw [if_neg h] at hQ
    exact h_202_10 hL ⟨fun _ => ⟨by omega, nmq_ref (k := 202) hok (by decide) F0 hM0 (fun M' L q => h_202_28 L q) hQ⟩, fun h => absurd rfl h⟩
/-- forget -/
theorem nmq_27 {d : Nat} {X : nm_X} {M : am_M} {Q : List am_V → am_M → Prop} (hok : nm_ok X) (hM : nm_M M X) (hQ : nm_KM (sp_27 X).1 [(0, (sp_27 X).2)] M Q) : am_CL d 235 [(2, 214)] M Q := by
  have F0 := nm_m0F (M := M)
  have hM0 := nm_m0 hok hM
  have hM1 := hM0
  have hL := nm_M_L hM0
  have hO := hM.1.2.2.2.1
  refine h_235_0 (nm_M_L hM) ?_
  rw [hM.1.2.1 1 (by unfold nm_si; omega)]
  refine hQ _ (nm_Fr_st F0 (by decide +kernel)) (nm_M_up hok hM0 (by unfold nm_si; omega) (by omega) (by omega) (nm_okS_up hO (by omega) (by omega) (by omega) (by omega) (by omega) (by omega) (by omega)))
/-- hear -/
theorem nmq_26 {d : Nat} {h p m : Int} {X : nm_X} {M : am_M} {Q : List am_V → am_M → Prop} (hd : 3 ≤ d) (hok : nm_ok X) (hM : nm_M M X) (hQ : nm_KM (sp_26 X h p m).1 [(0, (sp_26 X h p m).2)] M Q) : am_CL d 234 [(2, 214), (0, h), (0, p), (0, m)] M Q := by
  have F0 := nm_m0F (M := M)
  have hM0 := nm_m0 hok hM
  have hM1 := hM0
  have hL := nm_M_L hM0
  refine h_234_0 (nm_M_L hM) ⟨by omega, ?_⟩
  generalize am_st M 214 0 0 = M0 at F0 hM0 hM1 hL ⊢
  obtain ⟨m1, m2, m3, m4, m5, m6⟩ := hM1
  have m1' := m1
  obtain ⟨a1, hS, hW, hO, hX, a6⟩ := m1
  have o1 := hO.2.1
  have e1 : am_gt M0 216 1 = nx_S X 1 := hS 1 (by unfold nm_si; omega)
  have R1 : (h < 1 ∨ 8 < h ∨ p < 0 ∨ 8 ≤ p ∨ m < 0 ∨ 1 < m) → 0 < d ∧ am_CL (d - 1) 145 [(2, 214), (0, (-1))] M0 (fun r M' => am_WP d am_c234 34 [(2, 214), (0, h), (0, p), (0, m), (9, 0)] (r ++ []) M' Q) := by
    intro h
    unfold sp_26 at hQ; rw [if_pos h] at hQ
    exact ⟨by omega, nmq_ref (k := 234) hok (by decide) F0 hM0 (fun M' L q => h_234_34 L q) hQ⟩
  refine nmm_156 (by omega) hL (fun a0 a1 => ?_) (fun a0 => h_234_9 hL ⟨fun _ => R1 (by omega), fun h => absurd rfl h⟩)
  refine h_234_9 hL ⟨fun h => absurd h (by decide), fun _ => ⟨by omega, nmm_155 (by omega) hL (fun b0 b1 => ?_) (fun b0 => h_234_16 hL ⟨fun _ => R1 (by omega), fun h => absurd rfl h⟩)⟩⟩
  refine h_234_16 hL ⟨fun h => absurd h (by decide), fun _ => ⟨by omega, nmm_142 hL (fun c0 c1 => ?_) (fun c0 => h_234_26 hL ⟨fun h => absurd rfl h, fun _ => R1 (by omega)⟩)⟩⟩
  refine h_234_26 hL ⟨fun _ => ?_, fun h => absurd h (by decide)⟩
  rw [e1]
  refine ⟨fun h8 => ?_, fun h8 => ?_⟩
  · unfold sp_26 at hQ; rw [if_neg (by omega), if_neg (by omega)] at hQ
    have w1 : am_w (85 + am_w (3 * nx_S X 1)) = 85 + 3 * nx_S X 1 := by rw [am_w_id (x := 3 * nx_S X 1) (by omega) (by omega), am_w_id (by omega) (by omega)]
    have w2 : am_w (85 + 3 * nx_S X 1 + 1) = 86 + 3 * nx_S X 1 := by rw [am_w_id (by omega) (by omega)]; omega
    have w3 : am_w (85 + 3 * nx_S X 1 + 2) = 87 + 3 * nx_S X 1 := by rw [am_w_id (by omega) (by omega)]; omega
    rw [w1]
    refine ⟨by omega, by omega, ?_⟩
    have lay : ∀ {M'}, nm_Fr [(216, 0, 110)] M0 M' → nm_Lay M' := fun F => nm_Lay_fr hL F (by decide +kernel)
    have F1 := nm_Fr_st (a := 216) (i := 85 + 3 * nx_S X 1) (v := h) (nm_Fg_refl [(216, 0, 110)] M0) (nm_in_c (lo := 0) (hi := 110) (by decide) (by omega) (by omega))
    have F2 := nm_Fr_st (a := 216) (i := 86 + 3 * nx_S X 1) (v := p) F1 (nm_in_c (lo := 0) (hi := 110) (by decide) (by omega) (by omega))
    have F3 := nm_Fr_st (a := 216) (i := 87 + 3 * nx_S X 1) (v := m) F2 (nm_in_c (lo := 0) (hi := 110) (by decide) (by omega) (by omega))
    have F4 := nm_Fr_st (a := 216) (i := 1) (v := nx_S X 1 + 1) F3 (by decide)
    have S1 := nm_MS_up (j := 85 + 3 * nx_S X 1) (v := h) hS
    have S2 := nm_MS_up (j := 86 + 3 * nx_S X 1) (v := p) S1
    have S3 := nm_MS_up (j := 87 + 3 * nx_S X 1) (v := m) S2
    have S4 := nm_MS_up (j := 1) (v := nx_S X 1 + 1) S3
    have W4 := nm_MW_st (j := 1) (v := nx_S X 1 + 1) (nm_MW_st (j := 87 + 3 * nx_S X 1) (v := m) (nm_MW_st (j := 86 + 3 * nx_S X 1) (v := p) (nm_MW_st (j := 85 + 3 * nx_S X 1) (v := h) hW (by omega)) (by omega)) (by omega)) (by omega)
    have X4 := nm_MX_st (S' := nm_hrS (nx_S X) h p m) (j := 1) (v := nx_S X 1 + 1) (nm_MX_st (S' := nx_S X) (j := 87 + 3 * nx_S X 1) (v := m) (nm_MX_st (S' := nx_S X) (j := 86 + 3 * nx_S X 1) (v := p) (nm_MX_st (S' := nx_S X) (j := 85 + 3 * nx_S X 1) (v := h) hX (by omega) rfl) (by omega) rfl) (by omega) rfl) (by omega) (by unfold nm_hrS; rw [nm_up_ne (by omega), nm_up_ne (by omega), nm_up_ne (by omega), nm_up_ne (by omega)])
    refine h_234_70 (lay F1) ?_
    rw [w1, w2]
    refine ⟨by omega, by omega, h_234_85 (lay F2) ?_⟩
    have z3 : am_gt (am_st (am_st (am_st M0 216 (85 + 3 * nx_S X 1) h) 216 (86 + 3 * nx_S X 1) p) 216 (87 + 3 * nx_S X 1) m) 216 1 = nx_S X 1 := by
      rw [S3 1 (by unfold nm_si; omega), nm_up_ne (by omega), nm_up_ne (by omega), nm_up_ne (by omega)]
    rw [w1, w3, z3, am_w_id (x := nx_S X 1 + 1) (by omega) (by omega)]
    refine ⟨by omega, by omega, by omega, ?_⟩
    generalize am_st (am_st (am_st (am_st M0 216 (85 + 3 * nx_S X 1) h) 216 (86 + 3 * nx_S X 1) p) 216 (87 + 3 * nx_S X 1) m) 216 1 (nx_S X 1 + 1) = M4 at F4 S4 W4 X4 ⊢
    have C4 : nm_M M4 (ns_S X (nm_hrS (nx_S X) h p m)) := ⟨⟨lay F4, S4, W4, nm_okS_hr hO (by omega) (by omega) (by omega) (by omega), X4, by rw [nm_gt_frn F4 hL (by decide) (by decide +kernel)]; exact a6⟩, fun k a b => ⟨(nm_gt_frn F4 hL (by decide) (by decide +kernel)).trans (m2 k a b).1, fun e => nm_MI_fr (nm_ok_I hok a b e) ((m2 k a b).2 e) hL F4 (by decide +kernel)⟩, nm_MU_S (nm_MU_fr m3 hL F4 (by decide +kernel) (by decide +kernel) (by decide +kernel)) (fun i a b => by show nm_hrS (nx_S X) h p m i = nx_S X i; unfold nm_hrS; rw [nm_up_ne (by omega), nm_up_ne (by omega), nm_up_ne (by omega), nm_up_ne (by omega)]), nm_MP_fr m4 hL F4 (by decide +kernel) (by decide +kernel), nm_MR_fr m5 hL F4 (by decide +kernel) (by decide +kernel), nm_MY_fr m6 hL F4 (by decide +kernel)⟩
    have hok4 : nm_ok X := hok
    refine nmm_145 (R := nx_R X) (by omega) (nm_M_L C4) C4.2.2.2.2.1 (fun M5 F5 r5 => ?_)
    have hL5 := nm_Lay_fr (nm_M_L C4) F5 (by decide +kernel)
    refine h_234_118 hL5 (hQ M5 (nm_Fr_trans F0 (nm_Fr_trans (nm_mF F4 (by decide +kernel)) (nm_mF F5 (by decide +kernel)))) ?_)
    have r8 : nm_MR M5 (nm_fn1 (nx_R X)) := by unfold nm_tl1 at r5; rw [if_neg (by omega)] at r5; exact r5
    have hL4 := nm_M_L C4
    obtain ⟨m1, m2, m3, m4, m5, m6⟩ := C4
    exact ⟨nm_MA_fr m1 F5 (by decide +kernel) (by decide +kernel) (by decide +kernel), fun k a b => ⟨(nm_gt_frn F5 hL4 (by decide) (by decide +kernel)).trans (m2 k a b).1, fun e => nm_MI_fr (nm_ok_I hok4 a b e) ((m2 k a b).2 e) hL4 F5 (by decide +kernel)⟩, nm_MU_fr m3 hL4 F5 (by decide +kernel) (by decide +kernel) (by decide +kernel), nm_MP_fr m4 hL4 F5 (by decide +kernel) (by decide +kernel), r8, nm_MY_fr m6 hL4 F5 (by decide +kernel)⟩
  · unfold sp_26 at hQ; rw [if_neg (by omega), if_pos (by omega)] at hQ
    exact ⟨by omega, nmq_ref (k := 234) hok (by decide) F0 hM0 (fun M' L q => h_234_56 L q) hQ⟩
/-- terms -/
theorem nmm_166 {d : Nat} {k v : Int} {M : am_M} {Q : List am_V → am_M → Prop} (hd : 2 ≤ d) (hL : nm_Lay M) (h1 : nm_trm k v → Q [(0, 1)] M) (h0 : ¬ nm_trm k v → Q [(0, 0)] M) : am_CL d 166 [(0, k), (0, v)] M Q := by
  unfold nm_trm at h1 h0
  refine h_166_0 hL ⟨fun e0 => ⟨by omega, nmm_142 hL (fun a b => h_166_41 hL ⟨.inr rfl, h1 (by omega)⟩) (fun a => h_166_41 hL ⟨.inl rfl, h0 (by omega)⟩)⟩, fun e0 => ⟨fun e1 => ⟨by omega, nmm_142 hL (fun a b => h_166_51 hL ⟨.inr rfl, h1 (by omega)⟩) (fun a => h_166_51 hL ⟨.inl rfl, h0 (by omega)⟩)⟩, fun e1 => ⟨fun e2 => ⟨by omega, nmm_142 hL (fun a b => h_166_61 hL ⟨.inr rfl, h1 (by omega)⟩) (fun a => h_166_61 hL ⟨.inl rfl, h0 (by omega)⟩)⟩, fun e2 => ⟨fun e3 => ⟨by omega, nmm_156 (by omega) hL (fun a b => h_166_66 hL ⟨.inr rfl, h1 (by omega)⟩) (fun a => h_166_66 hL ⟨.inl rfl, h0 (by omega)⟩)⟩, fun e3 => h0 (by omega)⟩⟩⟩⟩
theorem nmq_8 {d : Nat} {k v : Int} {X : nm_X} {M : am_M} {Q : List am_V → am_M → Prop} (hd : 4 ≤ d) (hok : nm_ok X) (hM : nm_M M X) (hQ : nm_KM (sp_8 X k v).1 [(0, (sp_8 X k v).2)] M Q) : am_CL d 167 [(2, 214), (0, k), (0, v)] M Q := by
  have F0 := nm_m0F (M := M)
  have hM0 := nm_m0 hok hM
  have hM1 := hM0
  have hL := nm_M_L hM0
  refine h_167_0 (nm_M_L hM) ⟨by omega, ?_⟩
  generalize am_st M 214 0 0 = M0 at F0 hM0 hM1 hL ⊢
  obtain ⟨m1, m2, m3, m4, m5, m6⟩ := hM1
  have m1' := m1
  obtain ⟨a1, hS, hW, hO, hX, a6⟩ := m1
  refine nmm_166 (by omega) hL (fun ht => ?_) (fun ht => ?_)
  · have ht1 := ht
    unfold nm_trm at ht1
    unfold sp_8 at hQ; rw [if_pos ht1] at hQ
    refine h_167_10 hL ⟨fun _ => ⟨by omega, ?_⟩, fun h => absurd h (by decide)⟩
    rw [am_w_id (x := 4 + k) (by omega) (by omega)]
    have F1 : nm_Fr [(214, 8, 9)] M0 (am_st M0 214 8 0) := nm_Fr_st (nm_Fg_refl _ _) (by decide)
    have hL1 := nm_Lay_fr hL F1 (by decide +kernel)
    refine h_146_0 hL1 ⟨by omega, by omega, ?_⟩
    have F2 : nm_Fr [(214, 8, 9), (216, 0, 110), (214, 1, 2)] M0 (am_st (am_st (am_st M0 214 8 0) 216 (4 + k) v) 214 1 0) := nm_Fr_st (nm_Fr_st (nm_Fr_sub F1 (by decide)) (nm_in_c (lo := 0) (hi := 110) (by decide) (by omega) (by omega))) (by decide)
    have g : ∀ i, am_gt (am_st (am_st (am_st M0 214 8 0) 216 (4 + k) v) 214 1 0) 216 i = am_gt (am_st M0 216 (4 + k) v) 216 i := fun i => by
      simp only [nm_gt_st, Int.reduceEq, false_and, if_false]
    obtain ⟨r0, r1, r2, r3, r4, r5⟩ := m5
    have C2 : nm_M (am_st (am_st (am_st M0 214 8 0) 216 (4 + k) v) 214 1 0) (nx_fn (ns_U (ns_W (ns_S X (if k = 0 then nx_S X else nm_up (nx_S X) (4 + k) v)) (if k = 0 then v else (nx_W X).1, (nx_W X).2)) [])) := by
      refine ⟨⟨nm_Lay_fr hL F2 (by decide +kernel), fun i hi => (g i).trans ((?_ : nm_MS (am_st M0 216 (4 + k) v) _) i hi), nm_MW_kp (?_ : nm_MW (am_st M0 216 (4 + k) v) _) g, nm_okS_term hO ht, nm_MX_kp (nm_MX_st (j := 4 + k) (v := v) hX (by omega) (nm_ifup (by omega))) (fun i _ => g i), by rw [nm_gt_frd (g := [(214, 20, 21)]) F2 hL (by decide) (by decide +kernel) (by decide +kernel)]; exact a6⟩, fun k a b => ⟨(nm_gt_frn F2 hL (by decide) (by decide +kernel)).trans (m2 k a b).1, fun e => nm_MI_fr (nm_ok_I hok a b e) ((m2 k a b).2 e) hL F2 (by decide +kernel)⟩, nm_MU_nil (by rw [nm_st_nj (by decide), nm_st_ne (by decide), nm_st_eq]), nm_MP_fr m4 hL F2 (by decide +kernel) (by decide +kernel), ⟨by rw [nm_st_eq]; show (0 : Int) = nm_up (nx_R X) 0 0 0; rw [nm_up_eq], fun j a b c => by rw [nm_st_ne (by decide), nm_st_ne (by decide), nm_st_ne (by decide)]; show _ = nm_up _ 0 0 j; rw [nm_up_ne (by omega)]; exact r1 j a b c, by rw [nm_st_nj (by decide), nm_st_ne (by decide), nm_st_nj (by decide)]; exact r2, by rw [nm_st_nj (by decide), nm_st_ne (by decide), nm_st_nj (by decide)]; exact r3, by rw [nm_st_nj (by decide), nm_st_ne (by decide), nm_st_nj (by decide)]; exact r4, by rw [nm_st_nj (by decide), nm_st_ne (by decide), nm_st_nj (by decide)]; exact r5⟩, nm_MY_fr m6 hL F2 (by decide +kernel)⟩
      · show nm_MS (am_st M0 216 (4 + k) v) (if k = 0 then nx_S X else nm_up (nx_S X) (4 + k) v)
        by_cases h0 : k = 0
        · rw [if_pos h0, h0]; exact nm_MS_st hS (by unfold nm_si; omega)
        · rw [if_neg h0]; exact nm_MS_up hS
      · show nm_MW (am_st M0 216 (4 + k) v) (if k = 0 then v else (nx_W X).1, (nx_W X).2)
        by_cases h0 : k = 0
        · rw [if_pos h0, h0]; exact nm_MW_n hW
        · rw [if_neg h0]; exact nm_MW_st (W := nx_W X) hW (by omega)
    refine h_167_32 (nm_M_L C2) ?_
    have := hQ _ (nm_Fr_trans F0 (nm_mF F2 (by decide +kernel))) C2
    rw [nm_st_ne (by decide)]
    simp only at this
    by_cases h0 : k = 0
    · rw [if_pos h0] at this; rw [show am_gt M0 216 (4 + k) = (nx_W X).1 by rw [h0]; exact hW.1]; exact this
    · rw [if_neg h0] at this; rw [hS (4 + k) (by unfold nm_si; omega)]; exact this
  · have ht1 := ht
    unfold nm_trm at ht1
    unfold sp_8 at hQ; rw [if_neg ht1] at hQ
    exact h_167_10 hL ⟨fun h => absurd rfl h, fun _ => ⟨by omega, nmq_ref (k := 167) hok (by decide) F0 hM0 (fun M' L q => h_167_18 L q) hQ⟩⟩
/-- drawn -/
theorem nmq_38 {d : Nat} {k w : Int} {X : nm_X} {M : am_M} {Q : List am_V → am_M → Prop} (hd : 2 ≤ d) (hok : nm_ok X) (hM : nm_M M X) (hQ : nm_KM (sp_38 X k w).1 [(0, (sp_38 X k w).2)] M Q) : am_CL d 259 [(2, 214), (0, k), (0, w)] M Q := by
  have F0 := nm_m0F (M := M)
  have hM0 := nm_m0 hok hM
  have hM1 := hM0
  have hL := nm_M_L hM0
  have e58 : am_gt M 214 58 = nx_R X 10 := hM.2.2.2.2.1.2.2.2.2.2
  refine h_259_0 (nm_M_L hM) ?_
  rw [e58]
  generalize am_st M 214 0 0 = M0 at F0 hM0 hM1 hL ⊢
  obtain ⟨m1, m2, m3, m4, m5, m6⟩ := hM1
  have m1' := m1
  obtain ⟨a1, hS, hW, hO, hX, a6⟩ := m1
  have q := hQ M0 F0 hM0
  unfold sp_38 at q
  simp only at q
  have e58' : am_gt M0 214 58 = nx_R X 10 := m5.2.2.2.2.2
  refine ⟨fun h => ?_, fun h => ⟨by omega, ?_⟩⟩
  · rw [if_pos (.inl h)] at q; exact q
  obtain ⟨y1, y2⟩ := m6.resolve_left h
  have r6 := (hok.2.2.2.2.resolve_left h).2.1
  have r0 := (hok.2.2.2.2.resolve_left h).1
  refine nmm_142 hL (fun a0 a1 => h_259_22 hL ?_) (fun a0 => h_259_22 hL ⟨fun _ => ?_, fun h => absurd rfl h⟩)
  · rw [e58', am_wl_id (x := nx_R X 10 - 1) (by omega) (by omega), am_wl_id (x := 8 - 1) (by decide) (by decide)]
    refine ⟨fun h => absurd h (by decide), fun _ => ⟨fun w0 => ⟨by omega, nmm_142 hL (fun b0 b1 => h_259_47 hL ⟨fun _ => ⟨fun _ => ⟨fun w1 => ?_, fun w1 => ?_⟩, fun h => absurd w0 h⟩, fun h => absurd h (by decide)⟩) (fun b0 => h_259_47 hL ⟨fun h => absurd rfl h, fun _ => ?_⟩)⟩, fun w0 => ⟨by omega, nmm_142 hL (fun b0 b1 => h_259_47 hL ⟨fun _ => ⟨fun h => absurd h w0, fun _ => ?_⟩, fun h => absurd h (by decide)⟩) (fun b0 => h_259_47 hL ⟨fun h => absurd rfl h, fun _ => ?_⟩)⟩⟩⟩
    · rw [if_neg (by omega), if_neg w0, if_neg (by omega), if_neg w1, if_pos (by omega)] at q
      rw [am_w_id (x := 14 + k) (by omega) (by omega), (y2 k b0 (by omega)).2]; exact ⟨by omega, by omega, q⟩
    · rw [if_neg (by omega), if_neg w0, if_neg (by omega), if_pos (by omega)] at q
      rw [am_w_id (x := 8 + k) (by omega) (by omega), (y2 k b0 (by omega)).1]; exact ⟨by omega, by omega, q⟩
    · by_cases hk : k < 0
      · rw [if_pos (.inr hk)] at q; exact q
      · rw [if_neg (by omega), if_neg w0, if_pos (by omega)] at q; exact q
    · rw [if_neg (by omega), if_pos (by omega), if_pos (by omega)] at q
      rw [am_w_id (x := 0 + k) (by omega) (by omega), show 0 + k = k by omega, y1 k b0 (by omega)]; exact ⟨by omega, by omega, q⟩
    · by_cases hk : k < 0
      · rw [if_pos (.inr hk)] at q; exact q
      · rw [if_neg (by omega), if_pos (by omega), if_neg (by omega)] at q; exact q
  · by_cases hk : k < 0
    · rw [if_pos (.inr hk)] at q; exact q
    · rw [if_neg (by omega), if_neg (by omega)] at q
      by_cases hk2 : nx_R X 10 ≤ k
      · rw [if_pos hk2] at q; exact q
      · rw [if_neg hk2, if_neg (by omega), if_neg (by omega)] at q; exact q
/-- count -/
theorem nmq_41 {d : Nat} {k : Int} {X : nm_X} {M : am_M} {Q : List am_V → am_M → Prop} (hd : 2 ≤ d) (hok : nm_ok X) (hM : nm_M M X) (hQ : nm_KM (sp_41 X k).1 [(0, (sp_41 X k).2)] M Q) : am_CL d 260 [(2, 214), (0, k)] M Q := by
  have F0 := nm_m0F (M := M)
  have hM0 := nm_m0 hok hM
  have hM1 := hM0
  have hL := nm_M_L hM0
  refine h_260_0 (nm_M_L hM) ?_
  generalize am_st M 214 0 0 = M0 at F0 hM0 hM1 hL ⊢
  obtain ⟨m1, m2, m3, m4, m5, m6⟩ := hM1
  have m1' := m1
  obtain ⟨a1, hS, hW, hO, hX, a6⟩ := m1
  have oW : nm_okW (nx_S X 0) (nx_W X) := hok.1.2.2.1
  have q := hQ M0 F0 hM0
  unfold sp_41 at q
  simp only at q
  obtain ⟨w1, w2, w3, w4, w5, w6⟩ := hW
  have key : ∀ j : Nat, j ≤ 8 → am_WP d am_c260 9 [(2, 214), (0, k), (0, nm_sm (nx_W X).2.2.2 j), (0, (j : Int))] [] M0 Q := by
    refine nm_dn ?_
    intro j hj ih
    have hs := nm_sm_in (f := (nx_W X).2.2.2) (b := 99) (n := j) (fun i hi => oW.2.2.2.2.2 i (by omega) (by omega))
    refine h_260_9 hL ⟨fun h => ?_, fun h => ?_⟩
    · have hj8 : j = 8 := by omega
      subst hj8
      refine ⟨fun e0 => ?_, fun e0 => ⟨fun e1 => ?_, fun e1 => ⟨fun e2 => ?_, fun e2 => ⟨fun e3 => ?_, fun e3 => ⟨fun e4 => ?_, fun e4 => ⟨fun e5 => ?_, fun e5 => ⟨fun e6 => ?_, fun e6 => ⟨fun e7 => ?_, fun e7 => ⟨fun e8 => ?_, fun e8 => ⟨fun e9 => ?_, fun e9 => ⟨fun e10 => ?_, fun e10 => ⟨fun e11 => ?_, fun e11 => ⟨fun e12 => ?_, fun e12 => ⟨by omega, nmm_142 hL (fun a b => ?_) (fun a => ?_)⟩⟩⟩⟩⟩⟩⟩⟩⟩⟩⟩⟩⟩⟩
      · rw [if_pos e0] at q; rw [hS 0 (by unfold nm_si; omega)]; exact q
      · rw [if_neg e0, if_pos e1] at q; rw [w2]; exact q
      · rw [if_neg e0, if_neg e1, if_pos e2] at q; exact q
      · rw [if_neg e0, if_neg e1, if_neg e2, if_pos e3] at q; rw [hS 1 (by unfold nm_si; omega)]; exact q
      · rw [if_neg e0, if_neg e1, if_neg e2, if_neg e3, if_pos e4] at q; rw [hS 2 (by unfold nm_si; omega)]; exact q
      · rw [if_neg e0, if_neg e1, if_neg e2, if_neg e3, if_neg e4, if_pos e5] at q; rw [m3.1]; exact q
      · rw [if_neg e0, if_neg e1, if_neg e2, if_neg e3, if_neg e4, if_neg e5, if_pos e6] at q; rw [m4.1]; exact q
      · rw [if_neg e0, if_neg e1, if_neg e2, if_neg e3, if_neg e4, if_neg e5, if_neg e6, if_pos e7] at q; rw [m5.2.1 1 (by decide) (by decide) (by decide)]; exact q
      · rw [if_neg e0, if_neg e1, if_neg e2, if_neg e3, if_neg e4, if_neg e5, if_neg e6, if_neg e7, if_pos e8] at q; rw [m5.2.1 2 (by decide) (by decide) (by decide)]; exact q
      · rw [if_neg e0, if_neg e1, if_neg e2, if_neg e3, if_neg e4, if_neg e5, if_neg e6, if_neg e7, if_neg e8, if_pos e9] at q; rw [m5.2.1 3 (by decide) (by decide) (by decide)]; exact q
      · rw [if_neg e0, if_neg e1, if_neg e2, if_neg e3, if_neg e4, if_neg e5, if_neg e6, if_neg e7, if_neg e8, if_neg e9, if_pos e10] at q; rw [m5.2.1 5 (by decide) (by decide) (by decide)]; exact q
      · rw [if_neg e0, if_neg e1, if_neg e2, if_neg e3, if_neg e4, if_neg e5, if_neg e6, if_neg e7, if_neg e8, if_neg e9, if_neg e10, if_pos e11] at q; rw [m5.2.1 6 (by decide) (by decide) (by decide)]; exact q
      · rw [if_neg e0, if_neg e1, if_neg e2, if_neg e3, if_neg e4, if_neg e5, if_neg e6, if_neg e7, if_neg e8, if_neg e9, if_neg e10, if_neg e11, if_pos e12] at q; rw [hS 3 (by unfold nm_si; omega)]; exact q
      · rw [if_neg e0, if_neg e1, if_neg e2, if_neg e3, if_neg e4, if_neg e5, if_neg e6, if_neg e7, if_neg e8, if_neg e9, if_neg e10, if_neg e11, if_neg e12] at q
        refine h_260_195 hL ⟨fun h => absurd h (by decide), fun _ => ?_⟩
        rw [am_w_id (x := 4 + k) (by omega) (by omega), am_w_id (x := 4 + k - 13) (by omega) (by omega)]
        refine ⟨by omega, by omega, ?_⟩
        by_cases h13 : k = 13
        · rw [if_pos h13] at q; rw [h13]; rw [show am_gt M0 216 (4 + 13 - 13) = _ from w1]; exact q
        · rw [if_neg h13, if_pos (by omega)] at q; rw [hS (4 + k - 13) (by unfold nm_si; omega), show 4 + k - 13 = k - 9 by omega]; exact q
      · rw [if_neg e0, if_neg e1, if_neg e2, if_neg e3, if_neg e4, if_neg e5, if_neg e6, if_neg e7, if_neg e8, if_neg e9, if_neg e10, if_neg e11, if_neg e12, if_neg (by omega), if_neg (by omega)] at q
        exact h_260_195 hL ⟨fun _ => q, fun h => absurd rfl h⟩
    · have := oW.2.2.2.2.2 (j : Int) (by omega) (by omega)
      rw [am_w_id (x := 21 + (j : Int)) (by omega) (by omega), w6 j (by omega) (by omega), am_w_id (x := nm_sm _ _ + _) (by omega) (by omega), nm_wk (by omega)]
      exact ⟨by omega, by omega, ih (by omega)⟩
  exact key 0 (Nat.zero_le _)
