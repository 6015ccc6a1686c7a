/-! THE ASKER OF THE CLASS: what is made, worn, paid, barred -/
theorem nm_cut_mm {v hi : Int} (h : 0 ≤ hi) : max 0 (min hi v) = nm_cut v 0 hi := by
  unfold nm_cut
  split
  · omega
  · split <;> omega
theorem nm_cut_in {v hi : Int} (h : 0 ≤ hi) : 0 ≤ nm_cut v 0 hi ∧ nm_cut v 0 hi ≤ hi := by
  unfold nm_cut
  split
  · omega
  · split <;> omega
theorem nm_env_bd {S : Int → Int} {W : nm_W} {n m p h q : Int} (hO : nm_okS S) (hW : nm_okW n W) (hm : -1 ≤ m) (hm6 : m < 6) (hp : -1000 ≤ p ∧ p ≤ 1000) (hh : -1000 ≤ h ∧ h ≤ 1000) (hq : -1000 ≤ q ∧ q ≤ 1000) : ∀ k, nm_bd (nm_env S W m p h q k) := by
  intro k
  obtain ⟨-, -, -, -, -, o6, -, -, -, oB, -⟩ := hO
  obtain ⟨w1, w2, -, -, w5, -⟩ := hW
  unfold nm_env nm_bd
  repeat' split
  all_goals first | omega | skip
  · have := oB m (by omega) hm6; omega
  · have := w5 m (by omega) hm6; omega
theorem nmc_122 {d : Nat} {f : Int} {S : Int → Int} {D : Int → nm_T} {M : am_M} {Q : List am_V → am_M → Prop} (hL : nm_Lay M) (hS : nm_CS M 1 S) (hO : nm_okS S) (hX : nm_CX M 1 S D) (hQ : ∀ t, nm_tx M t (nm_lw S D f) → Q [(2, t)] M) : am_CL d 122 [(2, 1), (0, f)] M Q := by
  have s2 := nm_s2 hS
  have o2 := hO.2.2.1
  refine h_122_0 hL ⟨fun h => hQ (-1) (.inl ⟨rfl, ?_⟩), fun h => ⟨fun h2 => hQ (-1) (.inl ⟨rfl, ?_⟩), fun h2 => ⟨by omega, by omega, hQ _ (.inr ?_)⟩⟩⟩
  · unfold nm_lw; rw [if_neg (by omega)]
  · unfold nm_lw; rw [if_neg (by omega)]
  · have := hX f (by omega) (by omega)
    unfold nm_lw; rw [if_pos (by omega)]
    refine ⟨?_, this⟩
    intro h3
    have h4 := this.1
    rw [show (1 + 9 : Int) = 10 from rfl, h3] at h4
    omega
theorem nmc_123 {d : Nat} {S : Int → Int} {D : Int → nm_T} {M : am_M} {Q : List am_V → am_M → Prop} (hd : 1 ≤ d) (hL : nm_Lay M) (hS : nm_CS M 1 S) (hO : nm_okS S) (hX : nm_CX M 1 S D) (hQ : ∀ t, nm_tx M t (nm_lwf S D) → Q [(2, t)] M) : am_CL d 123 [(2, 1)] M Q := by
  refine h_123_0 hL ⟨by omega, ?_⟩
  rw [nm_s3 hS]
  exact nmc_122 hL hS hO hX (fun t ht => h_123_8 hL (hQ t ht))
theorem nm_seen_at {S : Int → Int} {m p h : Int} (hO : nm_okS S) (hm : 0 ≤ m) (hm' : m < S 0) (hp : p < h) : 0 ≤ 5 * m + S (29 + m) - 1 - (h - p - 1) % S (29 + m) ∧ 5 * m + S (29 + m) - 1 - (h - p - 1) % S (29 + m) < 30 := by
  obtain ⟨o0, -, -, -, -, -, -, oL, -⟩ := hO
  have l := oL m hm hm'
  have h1 := Int.emod_nonneg (h - p - 1) (show S (29 + m) ≠ 0 by omega)
  have h2 := Int.emod_lt_of_pos (h - p - 1) (show 0 < S (29 + m) by omega)
  omega
theorem nm_seen_in {S : Int → Int} {m p h : Int} (hO : nm_okS S) (hm : 0 ≤ m) (hm' : m < S 0) (hp : p < h) : 0 ≤ nm_seen S m p h ∧ nm_seen S m p h ≤ 7 := by
  have hx := nm_seen_at hO hm hm' hp
  obtain ⟨o0, -, -, -, -, -, -, oL, oS, -⟩ := hO
  have := oS _ hx.1 hx.2
  unfold nm_seen
  rw [show 35 + 5 * m + S (29 + m) - 1 - (h - p - 1) % S (29 + m) = 35 + (5 * m + S (29 + m) - 1 - (h - p - 1) % S (29 + m)) by omega]
  exact this
theorem nmc_116 {d : Nat} {m p h : Int} {S : Int → Int} {M : am_M} {Q : List am_V → am_M → Prop} (hL : nm_Lay M) (hS : nm_CS M 1 S) (hO : nm_okS S) (hm : 0 ≤ m) (hm' : m < S 0) (hp : 0 ≤ p) (hph : p < h) (hh : h ≤ 8) (hQ : Q [(0, nm_seen S m p h)] M) : am_CL d 116 [(2, 1), (0, m), (0, p), (0, h)] M Q := by
  have hx := nm_seen_at hO hm hm' hph
  obtain ⟨o0, -, -, -, -, -, -, oL, -⟩ := hO
  have l := oL m hm hm'
  have e1 := nm_slong hS hm (by omega)
  refine h_116_0 hL ⟨hm, by omega, ?_⟩
  rw [e1]
  have w1 : am_w (m * 5) = 5 * m := by rw [am_w_id (by omega) (by omega)]; omega
  have w2 : am_w (5 * m + S (29 + m)) = 5 * m + S (29 + m) := am_w_id (by omega) (by omega)
  have w3 : am_w (5 * m + S (29 + m) - 1) = 5 * m + S (29 + m) - 1 := am_w_id (by omega) (by omega)
  have w4 : am_w (h - p) = h - p := am_w_id (by omega) (by omega)
  have w5 : am_w (h - p - 1) = h - p - 1 := am_w_id (by omega) (by omega)
  have w6 : (h - p - 1).tmod (S (29 + m)) = (h - p - 1) % S (29 + m) := Int.tmod_eq_emod_of_nonneg (by omega)
  rw [w1, w2, w3, w4, w5, w6, am_w_id (x := 5 * m + S (29 + m) - 1 - (h - p - 1) % S (29 + m)) (by omega) (by omega)]
  refine ⟨fun h => absurd h (by omega), fun _ => ⟨fun _ => ⟨by omega, hx.1, hx.2, ?_⟩, fun h => absurd hph h⟩⟩
  rw [nm_ssaw hS hx.1 hx.2]
  unfold nm_seen at hQ
  rw [show 35 + 5 * m + S (29 + m) - 1 - (h - p - 1) % S (29 + m) = 35 + (5 * m + S (29 + m) - 1 - (h - p - 1) % S (29 + m)) by omega] at hQ
  exact hQ
theorem nm_made_in {S : Int → Int} {W : nm_W} {T : nm_T} {m p h q : Int} : 0 ≤ nm_made S W T m p h q ∧ nm_made S W T m p h q ≤ 7 := by
  unfold nm_made
  split
  · omega
  · exact nm_cut_in (by decide)
/-- what the asker needs to know of the class -/
def nm_CA (M : am_M) (S : Int → Int) (D : Int → nm_T) : Prop := nm_Lay M ∧ nm_CS M 1 S ∧ nm_okS S ∧ nm_CX M 1 S D
theorem nm_CA_fr {n s : Int} {f : nm_Rg} {M M' : am_M} {S : Int → Int} {D : Int → nm_T} (h : nm_CA M S D) (hF : nm_Fg n s f M M') (h1 : nm_lk f = true) (h2 : nm_dj f (nm_Sg 1) = true) (h3 : nm_lo f = true) (h4 : nm_no f 10 = true) : nm_CA M' S D :=
  ⟨nm_Lay_fr h.1 hF h1, nm_CS_fr h.2.1 h.1 (by decide) hF h2, h.2.2.1, nm_CX_fr h.2.2.2 (by decide) h.1 hF h3 h4⟩
theorem nm_CA_Ag {M M' : am_M} {S : Int → Int} {D : Int → nm_T} (h : nm_CA M S D) (hF : nm_Fr nm_Ag M M') : nm_CA M' S D := nm_CA_fr h hF (by decide +kernel) (by decide) (by decide) (by decide)
theorem nm_noW10 {w : Int} (hw : w ∈ nm_WL) : nm_no (nm_Wg w) 10 = true := nm_Wall (P := fun w => nm_no (nm_Wg w) 10) (by decide +kernel) hw
theorem nm_CA_W {M M' : am_M} {S : Int → Int} {D : Int → nm_T} {w : Int} (h : nm_CA M S D) (hw : w ∈ nm_WL) (hF : nm_Fr (nm_Wg w) M M') : nm_CA M' S D := nm_CA_fr h hF (nm_Wlk hw) (nm_WS1 hw) (nm_loW hw) (nm_noW10 hw)
theorem nm_CA_AW {M M' : am_M} {S : Int → Int} {D : Int → nm_T} {w : Int} (h : nm_CA M S D) (hw : w ∈ nm_WL) (hF : nm_Fr (nm_Ag ++ nm_Wg w) M M') : nm_CA M' S D :=
  nm_CA_fr h hF (nm_lk_app (by decide +kernel) (nm_Wlk hw)) (nm_dj_appl (by decide) (nm_WS1 hw)) (nm_lo_app (by decide) (nm_loW hw)) (nm_no_app (by decide) (nm_noW10 hw))
theorem nm_FAg {M M1 M2 : am_M} (F1 : nm_Fr nm_wg M M1) (F2 : nm_Fr nm_kg M1 M2) : nm_Fr nm_Ag M M2 := nm_Fr_trans (nm_Fr_sub F1 (by decide)) (nm_Fr_sub F2 (by decide))
/-- words and a law: what is told -/
theorem nmc_58 {d : Nat} {w t m p h q n : Int} {S : Int → Int} {D : Int → nm_T} {T : nm_T} {W : nm_W} {M : am_M} {Q : List am_V → am_M → Prop} (hd : 4 ≤ d) (hA : nm_CA M S D) (hw : w ∈ nm_WL) (hW : nm_CW M w W) (hoW : nm_okW n W) (ht : nm_tx M t T) (hm : 0 ≤ m) (hm6 : m < 6) (hp : -1000 ≤ p ∧ p ≤ 1000) (hh : -1000 ≤ h ∧ h ≤ 1000) (hq : 0 ≤ q ∧ q ≤ 7) (hQ : ∀ M', nm_Fr nm_Ag M M' → Q [(0, nm_made S W T m p h q)] M') : am_CL d 58 [(2, 17), (2, w), (2, t), (0, m), (0, p), (0, h), (0, q)] M Q := by
  obtain ⟨hL, hS, hO, hX⟩ := hA
  refine h_58_0 hL hw ⟨by omega, nmc_66 hL hw hS hW hm6 (fun M1 F1 e1 => ?_)⟩
  have hL1 := nm_Lay_fr hL F1 (by decide +kernel)
  refine h_58_12 hL1 hw ⟨by omega, nmc_68 (by omega) hL1 (nm_tx_fr ht F1 (by decide)) e1 (fun k _ _ => nm_env_bd hO hoW (by omega) hm6 hp hh (by omega) k) (fun M2 F2 => ?_)⟩
  have F := nm_FAg F1 F2
  have hL2 := nm_Lay_fr hL F (by decide +kernel)
  have hb := hO.2.2.2.2.2.2.2.2.2.1 m hm hm6
  have hr := hQ M2 F
  unfold nm_made at hr
  refine h_58_18 hL2 hw ⟨fun hz => ⟨by omega, h_65_0 hL2 ⟨by omega, ?_⟩⟩, fun hz => ⟨hm, hm6, ?_⟩⟩
  · cases hv : nm_told T 0 (nm_env S W m p h q) with
    | none => rw [hv] at hz; exact absurd rfl hz
    | some v =>
      rw [hv] at hr
      refine h_58_52 hL2 hw ?_
      rw [nm_cut_mm (by decide)]; exact hr
  · cases hv : nm_told T 0 (nm_env S W m p h q) with
    | none =>
      rw [hv] at hr
      refine h_58_52 hL2 hw ?_
      rw [nm_gt_frn F hL (by decide) (by decide), nm_sbend hS hm hm6, am_w_id (by omega) (by omega), Int.tmod_eq_emod_of_nonneg (by omega)]
      exact hr
    | some v =>
      rw [hv] at hz
      have hbd : nm_bd v := by
        refine nm_told_bd ht (fun k _ _ => nm_env_bd hO hoW (by omega) hm6 hp hh (by omega) k) hv
      have := hbd.1
      simp only [nm_enc] at hz
      omega
theorem nmc_59 {d : Nat} {w m p n : Int} {S : Int → Int} {D : Int → nm_T} {W : nm_W} {M : am_M} {Q : List am_V → am_M → Prop} (hd : 4 ≤ d) (hA : nm_CA M S D) (hw : w ∈ nm_WL) (hW : nm_CW M w W) (hoW : nm_okW n W) (hm : 0 ≤ m) (hm6 : m < 6) (hp : -1000 ≤ p ∧ p ≤ 1000) (hQ : ∀ M', nm_Fr nm_Ag M M' → Q [(0, nm_wear S W (nm_lwf S D) m p)] M') : am_CL d 59 [(2, 17), (2, w), (0, m), (0, p)] M Q := by
  have hA0 := hA
  obtain ⟨hL, hS, hO, hX⟩ := hA
  refine h_59_0 hL hw ⟨by omega, nmc_66 hL hw hS hW hm6 (fun M1 F1 e1 => ?_)⟩
  obtain ⟨hL1, hS1, -, hX1⟩ := nm_CA_Ag hA0 (nm_Fr_sub F1 (by decide))
  have hbd := nm_env_bd (p := p) (h := -1) (q := -1) hO hoW (show -1 ≤ m by omega) hm6 hp (by omega) (by omega)
  refine h_59_9 hL1 hw ⟨by omega, nmc_123 (by omega) hL1 hS1 hO hX1 (fun t ht => ?_)⟩
  refine h_59_17 hL1 hw ⟨by omega, nmc_68 (by omega) hL1 ht e1 (fun k _ _ => hbd k) (fun M2 F2 => ?_)⟩
  have F := nm_FAg F1 F2
  have hL2 := nm_Lay_fr hL F (by decide +kernel)
  have hr := hQ M2 F
  unfold nm_wear at hr
  refine h_59_21 hL2 hw ⟨fun hz => ⟨by omega, h_65_0 hL2 ⟨by omega, ?_⟩⟩, fun hz => ?_⟩
  · cases hv : nm_told (nm_lwf S D) 1 (nm_env S W m p (-1) (-1)) with
    | none => rw [hv] at hz; exact absurd rfl hz
    | some v =>
      rw [hv] at hr
      refine h_59_41 hL2 hw ?_
      rw [nm_cut_mm (by decide)]; exact hr
  · cases hv : nm_told (nm_lwf S D) 1 (nm_env S W m p (-1) (-1)) with
    | none => rw [hv] at hr; exact h_59_41 hL2 hw hr
    | some v =>
      rw [hv] at hz
      have := (nm_told_bd ht (fun k _ _ => hbd k) hv).1
      simp only [nm_enc] at hz
      omega
theorem nmc_60 {d : Nat} {w t q n : Int} {S : Int → Int} {D : Int → nm_T} {T : nm_T} {W : nm_W} {M : am_M} {Q : List am_V → am_M → Prop} (hd : 4 ≤ d) (hA : nm_CA M S D) (hw : w ∈ nm_WL) (hW : nm_CW M w W) (hoW : nm_okW n W) (ht : nm_tx M t T) (hq : 0 ≤ q ∧ q ≤ 7) (hQ : ∀ M', nm_Fr nm_Ag M M' → Q [(0, nm_pay S W T q)] M') : am_CL d 60 [(2, 17), (2, w), (2, t), (0, q)] M Q := by
  obtain ⟨hL, hS, hO, hX⟩ := hA
  refine h_60_0 hL hw ⟨by omega, nmc_66 hL hw hS hW (by decide) (fun M1 F1 e1 => ?_)⟩
  have hL1 := nm_Lay_fr hL F1 (by decide +kernel)
  have hbd := nm_env_bd (p := -1) (h := -1) (q := q) hO hoW (show (-1 : Int) ≤ -1 by decide) (by decide) (by omega) (by omega) (by omega)
  refine h_60_9 hL1 hw ⟨by omega, nmc_68 (by omega) hL1 (nm_tx_fr ht F1 (by decide)) e1 (fun k _ _ => hbd k) (fun M2 F2 => ?_)⟩
  have F := nm_FAg F1 F2
  have hL2 := nm_Lay_fr hL F (by decide +kernel)
  have hr := hQ M2 F
  unfold nm_pay at hr
  refine h_60_15 hL2 hw ⟨fun hz => ⟨by omega, h_65_0 hL2 ⟨by omega, ?_⟩⟩, fun hz => ?_⟩
  · cases hv : nm_told T 2 (nm_env S W (-1) (-1) (-1) q) with
    | none => rw [hv] at hz; exact absurd rfl hz
    | some v =>
      rw [hv] at hr
      refine h_60_35 hL2 hw ?_
      rw [nm_cut_mm (by decide)]; exact hr
  · cases hv : nm_told T 2 (nm_env S W (-1) (-1) (-1) q) with
    | none => rw [hv] at hr; exact h_60_35 hL2 hw hr
    | some v =>
      rw [hv] at hz
      have := (nm_told_bd ht (fun k _ _ => hbd k) hv).1
      simp only [nm_enc] at hz
      omega
theorem nmc_61 {d : Nat} {w m p n : Int} {S : Int → Int} {D : Int → nm_T} {W : nm_W} {M : am_M} {Q : List am_V → am_M → Prop} (hd : 4 ≤ d) (hA : nm_CA M S D) (hw : w ∈ nm_WL) (hW : nm_CW M w W) (hoW : nm_okW n W) (hm : 0 ≤ m) (hm6 : m < 6) (hp : -1000 ≤ p ∧ p ≤ 1000) (hQ : ∀ M', nm_Fr nm_Ag M M' → Q [(0, if nm_bar S W (nm_lwf S D) m p then 1 else 0)] M') : am_CL d 61 [(2, 17), (2, w), (0, m), (0, p)] M Q := by
  have hA0 := hA
  obtain ⟨hL, hS, hO, hX⟩ := hA
  refine h_61_0 hL hw ⟨by omega, nmc_66 hL hw hS hW hm6 (fun M1 F1 e1 => ?_)⟩
  obtain ⟨hL1, hS1, -, hX1⟩ := nm_CA_Ag hA0 (nm_Fr_sub F1 (by decide))
  have hbd := nm_env_bd (p := p) (h := -1) (q := -1) hO hoW (show -1 ≤ m by omega) hm6 hp (by omega) (by omega)
  refine h_61_9 hL1 hw ⟨by omega, nmc_123 (by omega) hL1 hS1 hO hX1 (fun t ht => ?_)⟩
  refine h_61_17 hL1 hw ⟨by omega, nmc_68 (by omega) hL1 ht e1 (fun k _ _ => hbd k) (fun M2 F2 => ?_)⟩
  have F := nm_FAg F1 F2
  have hL2 := nm_Lay_fr hL F (by decide +kernel)
  have hr := hQ M2 F
  unfold nm_bar at hr
  refine h_61_21 hL2 hw ⟨fun hz => ?_, fun hz => ?_⟩
  · cases hv : nm_told (nm_lwf S D) 3 (nm_env S W m p (-1) (-1)) with
    | none => rw [hv] at hr; exact hr
    | some v =>
      rw [hv] at hz
      have := (nm_told_bd ht (fun k _ _ => hbd k) hv).1
      simp only [nm_enc] at hz
      omega
  · cases hv : nm_told (nm_lwf S D) 3 (nm_env S W m p (-1) (-1)) with
    | none => rw [hv] at hz; exact absurd rfl hz
    | some v => rw [hv] at hr; exact hr
