/-! CALLS OF THE CLASS: what changes the works, images -/
def nm_chA (S : Int → Int) (W : nm_W) (T : nm_T) (k m b : Int) : Int :=
  if k = 0 then nm_hangR S W T m
  else if k = 1 then (if m < 0 ∨ S 0 ≤ m then -2 else if nm_ix W.2.1 m = -1 then -3 else nm_ix W.2.1 m)
  else if k = 2 then (if b < 1 ∨ 30 < b then -1 else if m < 0 ∨ S 0 ≤ m then -2 else if W.2.2.2 0 = 0 then -3 else min 30 (W.2.2.1 m + b))
  else (if 999 ≤ W.1 then -3 else ((nm_all S W T (S 7)).length : Int))
def nm_chW (S : Int → Int) (W : nm_W) (T : nm_T) (k m b : Int) : nm_W :=
  if k = 0 then nm_hangW W m else if k = 1 then nm_downW W (nm_ix W.2.1 m).toNat
  else if k = 2 then (W.1, W.2.1, nm_up W.2.2.1 m (min 30 (W.2.2.1 m + b)), nm_up W.2.2.2 0 (W.2.2.2 0 - 1)) else nm_pass S T W
def nm_ch (X : nm_X) (k m b : Int) : nm_X × Int := if nm_chA (nx_S X) (nx_W X) (nm_lwf (nx_S X) (nx_D X)) k m b < 0 then (X, nm_chA (nx_S X) (nx_W X) (nm_lwf (nx_S X) (nx_D X)) k m b) else (ns_U (ns_W X (nm_chW (nx_S X) (nx_W X) (nm_lwf (nx_S X) (nx_D X)) k m b)) (nm_keep (nx_U X) k (nx_W X)), nm_chA (nx_S X) (nx_W X) (nm_lwf (nx_S X) (nx_D X)) k m b)
theorem nm_okW_work {n : Int} {S : Int → Int} {T : nm_T} {W : nm_W} (h : nm_okW n W) : nm_okW n (nm_work S T W) := by
  obtain ⟨h1, h2, h3, h4, h5, h6⟩ := h
  refine ⟨h1, h2, h3, h4, h5, fun p a b => ?_⟩
  have := h6 p a b
  show 0 ≤ min 99 _ ∧ min 99 _ ≤ 99
  omega
theorem nm_okW_wear {n : Int} {S : Int → Int} {T : nm_T} {W : nm_W} (h : nm_okW n W) (hn : W.1 ≤ 1998) : nm_okW n (nm_wearW S T W) := by
  obtain ⟨h1, h2, h3, h4, h5, h6⟩ := h
  refine ⟨?_, ?_, List.Nodup.sublist List.filter_sublist h3, fun m hm => h4 m (List.mem_filter.mp hm).1, fun m a b => nm_ws_in (h5 m a b), h6⟩
  · show 0 ≤ W.1 + 1; omega
  · show W.1 + 1 ≤ 1999; omega
theorem nm_okW_pass {n : Int} {S : Int → Int} {T : nm_T} {W : nm_W} (h : nm_okW n W) (hn : W.1 ≤ 1998) : nm_okW n (nm_pass S T W) := nm_okW_wear (nm_okW_work h) hn
theorem nm_okW_hang {n m : Int} {W : nm_W} (h : nm_okW n W) (a : 0 ≤ m) (b : m < n) (c : m ∉ W.2.1) : nm_okW n (nm_hangW W m) := by
  obtain ⟨h1, h2, h3, h4, h5, h6⟩ := h
  refine ⟨h1, h2, ?_, fun k hk => ?_, h5, h6⟩
  · show (W.2.1 ++ [m]).Nodup
    rw [List.nodup_append]
    exact ⟨h3, (show List.Pairwise _ [m] from List.pairwise_singleton _ _), fun x hx y hy e => c (by rw [List.mem_singleton] at hy; rw [← hy, ← e]; exact hx)⟩
  · have hk : k ∈ W.2.1 ++ [m] := hk
    rcases List.mem_append.mp hk with h | h
    · exact h4 k h
    · rw [List.mem_singleton] at h; omega
theorem nm_okW_down {n : Int} {p : Nat} {W : nm_W} (h : nm_okW n W) : nm_okW n (nm_downW W p) := by
  obtain ⟨h1, h2, h3, h4, h5, h6⟩ := h
  exact ⟨h1, h2, List.Nodup.sublist (List.eraseIdx_sublist _ _) h3, fun k hk => h4 k (List.mem_of_mem_eraseIdx hk), h5, h6⟩
theorem nm_chA_cases (S : Int → Int) (W : nm_W) (T : nm_T) (k m b : Int) (hs : 0 ≤ m → m < S 0 → 0 ≤ W.2.2.1 m) : 0 ≤ nm_chA S W T k m b ∨ nm_chA S W T k m b = -1 ∨ nm_chA S W T k m b = -2 ∨ nm_chA S W T k m b = -3 ∨ nm_chA S W T k m b = -5 ∨ nm_chA S W T k m b = -6 := by
  unfold nm_chA nm_hangR
  have hx : nm_ix W.2.1 m = -1 ∨ 0 ≤ nm_ix W.2.1 m := by
    rcases nm_ix_cases W.2.1 m with ⟨e, -⟩ | ⟨k, -, -, e⟩ <;> omega
  repeat' split
  all_goals omega
abbrev nm_chF : nm_Rg := nm_Wg 168 ++ ((nm_Ag ++ nm_Wg 11) ++ nm_Ug 34)
theorem nmc_54 {d : Nat} {k m b : Int} {X : nm_X} {M : am_M} {Q : List am_V → am_M → Prop} (hd : 8 ≤ d) (hk : 0 ≤ k ∧ k ≤ 3) (hC : nm_C M X) (hok : nm_ok X) (hQ : ∀ M', nm_Fr nm_chF M M' → nm_C M' (nm_ch X k m b).1 → Q [(0, (nm_ch X k m b).2)] M') : am_CL d 54 [(2, 0), (0, k), (0, m), (0, b)] M Q := by
  have oW : nm_okW (nx_S X 0) (nx_W X) := hok.1.2.2.1
  have hn9 : (nx_W X).1 ≤ 999 := hok.1.2.2.2
  refine h_54_0 (nm_C_L hC) ⟨by omega, nmc_136 (by omega) (nm_C_L hC) (by decide) (by decide) (by decide) hC.2.1 (fun M1 F1 V1 => ?_)⟩
  have hC1 : nm_C M1 X := nm_C_fr hC F1 (by decide +kernel)
  have hC := hC1
  have hL := nm_C_L hC1
  obtain ⟨c1, c2, c3, c4, c5, c6, c7, c8, c9, c10, c11, c12⟩ := hC
  have hA := c1
  obtain ⟨-, hS, hO, hX⟩ := c1
  have s0 := nm_s0 hS
  have neg : ∀ M2 a, a < 0 → nm_chA (nx_S X) (nx_W X) (nm_lwf (nx_S X) (nx_D X)) k m b = a → nm_Fr (nm_Ag ++ nm_Wg 11) M1 M2 → nm_C M2 X → am_WP d am_c54 140 [(2, 0), (0, k), (0, m), (0, b), (2, 11), (0, a)] [] M2 Q := by
    intro M2 a ha ea F2 C2
    refine h_54_140 (nm_C_L C2) ⟨fun _ => h_54_157 (nm_C_L C2) ?_, fun h => absurd ha h⟩
    have := hQ M2 (nm_Fr_trans (nm_Fr_appl F1) (nm_Fr_appr (nm_Fr_appl F2)))
    unfold nm_ch at this
    rw [if_pos (by rw [ea]; exact ha), ea] at this
    exact this C2
  have pos : ∀ M2 a, 0 ≤ a → nm_chA (nx_S X) (nx_W X) (nm_lwf (nx_S X) (nx_D X)) k m b = a → nm_Fr (nm_Ag ++ nm_Wg 11) M1 M2 → nm_CW M2 11 (nm_chW (nx_S X) (nx_W X) (nm_lwf (nx_S X) (nx_D X)) k m b) → am_WP d am_c54 140 [(2, 0), (0, k), (0, m), (0, b), (2, 11), (0, a)] [] M2 Q := by
    intro M2 a ha ea F2 W2
    have hL2 := nm_Lay_fr hL F2 (by decide +kernel)
    refine h_54_140 hL2 ⟨fun h => absurd ha (by omega), fun _ => ⟨by omega, nmc_131 (by omega) hL2 (nm_CU_fr (.inl rfl) c8 hL F2 (by decide +kernel)) (nm_CW_fr V1 hL (by decide) F2 (by decide +kernel)) (fun M3 F3 U3 => ?_)⟩⟩
    have hL3 := nm_LayU (.inl rfl) hL2 F3
    have F13 : nm_Fr ((nm_Ag ++ nm_Wg 11) ++ nm_Ug 34) M1 M3 := nm_Fr_trans (nm_Fr_appl F2) (nm_Fr_appr F3)
    refine h_54_157 hL3 ?_
    have := hQ M3 (nm_Fr_trans (nm_Fr_appl F1) (nm_Fr_appr F13))
    unfold nm_ch at this
    rw [if_neg (by rw [ea]; omega), ea] at this
    refine this ?_
    exact ⟨nm_CA_fr hA F13 (by decide +kernel) (by decide +kernel) (by decide +kernel) (by decide +kernel), nm_CW_fr W2 hL2 (by decide) F3 (by decide +kernel), nm_TX_fr c3 (by decide) hL F13 (by decide +kernel), nm_TX_fr c4 (by decide) hL F13 (by decide +kernel), nm_TX_fr c5 (by decide) hL F13 (by decide +kernel), ⟨(nm_gt_frn F13 hL (by decide) (by decide +kernel)).trans c6.1, fun k => nm_CI_fr (c6.2 k) hL (by decide) (by decide) F13 (by decide +kernel) (by decide +kernel) (by decide +kernel) (by decide +kernel)⟩, ⟨(nm_gt_frn F13 hL (by decide) (by decide +kernel)).trans c7.1, fun k => nm_CI_fr (c7.2 k) hL (by decide) (by decide) F13 (by decide +kernel) (by decide +kernel) (by decide +kernel) (by decide +kernel)⟩, U3, nm_CUp_fr c9 hL (by decide) F13 (by decide +kernel), nm_CP_fr c10 hL F13 (by decide +kernel) (by decide +kernel), nm_CR_fr c11 hL F13 (by decide +kernel), c12.imp id (fun e => nm_CW_fr e hL (by decide) F13 (by decide +kernel))⟩
  refine h_54_18 hL ⟨fun h0 => ?_, fun h0 => ⟨fun h1 => ?_, fun h1 => ⟨fun h2 => ?_, fun h2 => ?_⟩⟩⟩
  · have eA : nm_chA (nx_S X) (nx_W X) (nm_lwf (nx_S X) (nx_D X)) k m b = nm_hangR (nx_S X) (nx_W X) (nm_lwf (nx_S X) (nx_D X)) m := by unfold nm_chA; rw [if_pos h0]
    have eW : nm_chW (nx_S X) (nx_W X) (nm_lwf (nx_S X) (nx_D X)) k m b = nm_hangW (nx_W X) m := by unfold nm_chW; rw [if_pos h0]
    refine ⟨by omega, nmc_62 (by omega) hA (by decide) c2 oW (fun M2 hneg F2 => ?_) (fun M2 hpos hin F2 W2 => ?_)⟩
    · exact h_54_54 (nm_Lay_fr hL F2 (by decide +kernel)) ⟨fun _ => neg M2 _ hneg eA (nm_Fr_appl F2) (nm_C_fr hC1 F2 (by decide +kernel)), fun h => absurd h (by omega)⟩
    · refine h_54_54 (nm_Lay_fr hL F2 (by decide +kernel)) ⟨fun _ => pos M2 _ (by omega) (eA.trans hpos) F2 (by rw [eW]; exact W2), fun h => absurd h (by omega)⟩
  · have eA : nm_chA (nx_S X) (nx_W X) (nm_lwf (nx_S X) (nx_D X)) k m b = if m < 0 ∨ nx_S X 0 ≤ m then -2 else if nm_ix (nx_W X).2.1 m = -1 then -3 else nm_ix (nx_W X).2.1 m := by unfold nm_chA; rw [if_neg h0, if_pos h1]
    have R := nm_Fg_refl (nm_Ag ++ nm_Wg 11) M1
    refine ⟨by omega, nmc_46 hL (fun a0 a1 => ?_) (fun a0 => ?_)⟩
    · rw [s0] at a1
      rw [if_neg (by omega)] at eA
      refine h_54_64 hL ⟨fun h => absurd h (by decide), fun _ => ⟨by omega, nmc_138 (by omega) hL (by decide) c2 (fun e => ?_) (fun j M2 hj e F2 W2 => ?_)⟩⟩
      · rw [if_pos e] at eA
        exact h_54_73 hL ⟨fun _ => neg M1 _ (by decide) eA R hC1, fun h => absurd h (by omega)⟩
      · rw [if_neg (by omega), e] at eA
        refine h_54_73 (nm_Lay_fr hL F2 (by decide +kernel)) ⟨fun _ => pos M2 _ (by omega) eA (nm_Fr_appr F2) ?_, fun h => absurd h (by omega)⟩
        unfold nm_chW; rw [if_neg h0, if_pos h1, e]; exact W2
    · rw [s0] at a0
      rw [if_pos a0] at eA
      exact h_54_64 hL ⟨fun _ => ⟨fun _ => neg M1 _ (by decide) eA R hC1, fun h => absurd h (by omega)⟩, fun h => absurd rfl h⟩
  · have eA : nm_chA (nx_S X) (nx_W X) (nm_lwf (nx_S X) (nx_D X)) k m b = if b < 1 ∨ 30 < b then -1 else if m < 0 ∨ nx_S X 0 ≤ m then -2 else if (nx_W X).2.2.2 0 = 0 then -3 else min 30 ((nx_W X).2.2.1 m + b) := by unfold nm_chA; rw [if_neg h0, if_neg h1, if_pos h2]
    have R := nm_Fg_refl (nm_Ag ++ nm_Wg 11) M1
    have n89 : ∀ a, a < 0 → nm_chA (nx_S X) (nx_W X) (nm_lwf (nx_S X) (nx_D X)) k m b = a → am_WP d am_c54 89 [(2, 0), (0, k), (0, m), (0, b), (2, 11), (9, 0)] [(0, a)] M1 Q := fun a ha ea => h_54_89 hL ⟨fun _ => neg M1 _ ha ea R hC1, fun h => absurd h (by omega)⟩
    refine ⟨by omega, h_55_0 hL ⟨fun b1 => n89 _ (by decide) (by rw [eA, if_pos (by omega)]), fun b1 => ⟨fun b2 => ⟨by omega, nmc_46 hL (fun a0 a1 => ?_) (fun a0 => ?_)⟩, fun b2 => n89 _ (by decide) (by rw [eA, if_pos (by omega)])⟩⟩⟩
    · rw [s0] at a1
      rw [if_neg (by omega), if_neg (by omega)] at eA
      have g14 : am_gt M1 14 0 = (nx_W X).2.2.2 0 := c2.2.2.2.2.2 0 (by decide) (by decide)
      have o0 := hO.1
      have g13 : am_gt M1 13 m = (nx_W X).2.2.1 m := c2.2.2.2.2.1 m a0 (by omega)
      have bs := oW.2.2.2.2.1 m a0 (by omega)
      have bt := oW.2.2.2.2.2 0 (by decide) (by decide)
      refine h_55_18 hL ⟨fun _ => ?_, fun h => absurd h (by decide)⟩
      rw [g14, g13, am_w_id (x := _ + b) (by omega) (by omega), am_w_id (x := _ - 1) (by omega) (by omega)]
      refine ⟨fun z => ⟨a0, by omega, by omega, ?_⟩, fun z => n89 _ (by decide) (by rw [eA, if_pos (by omega)])⟩
      have F2 : nm_Fr (nm_Ag ++ nm_Wg 11) M1 (am_st (am_st M1 14 0 ((nx_W X).2.2.2 0 - 1)) 13 m (min 30 ((nx_W X).2.2.1 m + b))) := nm_Fr_st (nm_Fr_st (nm_Fg_refl _ _) (by decide +kernel)) (nm_in_c (lo := 0) (hi := 6) (by decide +kernel) a0 (by omega))
      refine h_54_89 (nm_Lay_fr hL F2 (by decide +kernel)) ⟨fun _ => pos _ _ (by omega) (by rw [eA, if_neg z]) F2 ?_, fun h => absurd h (by omega)⟩
      unfold nm_chW; rw [if_neg h0, if_neg h1, if_pos h2]
      exact nm_CW_s (w := 11) (nm_CW_t (w := 11) (m := 0) (v := (nx_W X).2.2.2 0 - 1) c2)
    · rw [s0] at a0
      refine h_55_18 hL ⟨fun h => absurd rfl h, fun _ => n89 _ (by decide) (by rw [eA, if_neg (by omega), if_pos a0])⟩
  · have hk3 : k = 3 := by omega
    have eA : nm_chA (nx_S X) (nx_W X) (nm_lwf (nx_S X) (nx_D X)) k m b = if 999 ≤ (nx_W X).1 then -3 else ((nm_all (nx_S X) (nx_W X) (nm_lwf (nx_S X) (nx_D X)) (nx_S X 7)).length : Int) := by unfold nm_chA; rw [if_neg h0, if_neg h1, if_neg h2]
    have R := nm_Fg_refl (nm_Ag ++ nm_Wg 11) M1
    rw [c2.1]
    refine ⟨fun hn => ⟨fun h => absurd hk3 h, fun _ => ⟨fun _ => neg M1 _ (by decide) (by rw [eA, if_pos hn]) R hC1, fun h => absurd (by decide) h⟩⟩, fun hn => ⟨by omega, nmc_63 (by omega) hA (by decide) c2 oW (fun M2 F2 W2 => ?_)⟩⟩
    have hL2 := nm_Lay_fr hL F2 (by decide +kernel)
    have hA2 := nm_CA_AW hA (by decide) F2
    refine h_54_114 hL2 ⟨fun h => absurd hk3 h, fun _ => ⟨fun h => absurd h (by omega), fun _ => ⟨by omega, nmc_64 (by omega) hA2 (by decide) W2 (nm_okW_work oW) (fun M3 F3 W3 => ?_)⟩⟩⟩
    refine pos M3 _ (by omega) (by rw [eA, if_neg hn]) (nm_Fr_trans F2 F3) ?_
    unfold nm_chW; rw [if_neg h0, if_neg h1, if_neg h2]; exact W3
/-- hang, down, polish, pass -/
def sp_ch (X : nm_X) (k m b : Int) : nm_X × Int := (nx_tl (nm_ch X k m b).1 (nm_ch X k m b).2, (nm_ch X k m b).2)
theorem nm_ch_a (X : nm_X) (k m b : Int) : (nm_ch X k m b).2 = nm_chA (nx_S X) (nx_W X) (nm_lwf (nx_S X) (nx_D X)) k m b := by unfold nm_ch; split <;> rfl
theorem nm_ch_in {X : nm_X} (hok : nm_ok X) (k m b : Int) : 0 ≤ (nm_ch X k m b).2 ∨ (nm_ch X k m b).2 = -1 ∨ (nm_ch X k m b).2 = -2 ∨ (nm_ch X k m b).2 = -3 ∨ (nm_ch X k m b).2 = -5 ∨ (nm_ch X k m b).2 = -6 := by
  rw [nm_ch_a]
  exact nm_chA_cases _ _ _ _ _ _ (fun a c => (hok.1.2.2.1.2.2.2.2.1 m a (by have : nx_S X 0 ≤ 6 := hok.1.1.1.2; omega)).1)
theorem nmp_18 {d : Nat} {m : Int} {X : nm_X} {M : am_M} {Q : List am_V → am_M → Prop} (hd : 9 ≤ d) (hC : nm_C M X) (hok : nm_ok X) (hQ : nm_KC (sp_ch X 0 m 0).1 [(0, (sp_ch X 0 m 0).2)] M Q) : am_CL d 18 [(2, 0), (0, m)] M Q := by
  refine h_18_0 (nm_C_L hC) ⟨by omega, nmc_54 (by omega) (by decide) hC hok (fun M1 F1 C1 => h_18_8 (nm_C_L C1) ⟨by omega, nmx_45 (by omega) (nm_ch_in hok _ _ _) C1 (fun M2 F2 C2 => h_18_11 (nm_C_L C2) (hQ M2 (nm_cFF F1 F2 (by decide +kernel) (by decide) (by decide)) C2))⟩)⟩
theorem nmp_19 {d : Nat} {m : Int} {X : nm_X} {M : am_M} {Q : List am_V → am_M → Prop} (hd : 9 ≤ d) (hC : nm_C M X) (hok : nm_ok X) (hQ : nm_KC (sp_ch X 1 m 0).1 [(0, (sp_ch X 1 m 0).2)] M Q) : am_CL d 19 [(2, 0), (0, m)] M Q := by
  refine h_19_0 (nm_C_L hC) ⟨by omega, nmc_54 (by omega) (by decide) hC hok (fun M1 F1 C1 => h_19_8 (nm_C_L C1) ⟨by omega, nmx_45 (by omega) (nm_ch_in hok _ _ _) C1 (fun M2 F2 C2 => h_19_11 (nm_C_L C2) (hQ M2 (nm_cFF F1 F2 (by decide +kernel) (by decide) (by decide)) C2))⟩)⟩
theorem nmp_20 {d : Nat} {m b : Int} {X : nm_X} {M : am_M} {Q : List am_V → am_M → Prop} (hd : 9 ≤ d) (hC : nm_C M X) (hok : nm_ok X) (hQ : nm_KC (sp_ch X 2 m b).1 [(0, (sp_ch X 2 m b).2)] M Q) : am_CL d 20 [(2, 0), (0, m), (0, b)] M Q := by
  refine h_20_0 (nm_C_L hC) ⟨by omega, nmc_54 (by omega) (by decide) hC hok (fun M1 F1 C1 => h_20_8 (nm_C_L C1) ⟨by omega, nmx_45 (by omega) (nm_ch_in hok _ _ _) C1 (fun M2 F2 C2 => h_20_11 (nm_C_L C2) (hQ M2 (nm_cFF F1 F2 (by decide +kernel) (by decide) (by decide)) C2))⟩)⟩
theorem nmp_21 {d : Nat} {X : nm_X} {M : am_M} {Q : List am_V → am_M → Prop} (hd : 9 ≤ d) (hC : nm_C M X) (hok : nm_ok X) (hQ : nm_KC (sp_ch X 3 (-1) 0).1 [(0, (sp_ch X 3 (-1) 0).2)] M Q) : am_CL d 21 [(2, 0)] M Q := by
  refine h_21_0 (nm_C_L hC) ⟨by omega, nmc_54 (by omega) (by decide) hC hok (fun M1 F1 C1 => h_21_8 (nm_C_L C1) ⟨by omega, nmx_45 (by omega) (nm_ch_in hok _ _ _) C1 (fun M2 F2 C2 => h_21_11 (nm_C_L C2) (hQ M2 (nm_cFF F1 F2 (by decide +kernel) (by decide) (by decide)) C2))⟩)⟩
/-- undo -/
def sp_22 (X : nm_X) : nm_X × Int := if (nx_U X).length = 0 then (nx_rf X (-3), -3) else (nx_fn (ns_U (ns_W X ((nx_U X).getD ((nx_U X).length - 1) nm_u0).2) ((nx_U X).take ((nx_U X).length - 1))), ((nx_U X).getD ((nx_U X).length - 1) nm_u0).1)
theorem nmp_22 {d : Nat} {X : nm_X} {M : am_M} {Q : List am_V → am_M → Prop} (hd : 4 ≤ d) (hC : nm_C M X) (hok : nm_ok X) (hQ : nm_KC (sp_22 X).1 [(0, (sp_22 X).2)] M Q) : am_CL d 22 [(2, 0)] M Q := by
  have hL := nm_C_L hC
  have hC0 := hC
  obtain ⟨c1, c2, c3, c4, c5, c6, c7, c8, c9, c10, c11, c12⟩ := hC
  unfold sp_22 at hQ
  refine h_22_0 hL ⟨by omega, nmc_133 (by omega) hL c8 (fun e => ?_) (fun U0 k W M1 e F1 U1 W1 => ?_)⟩
  · rw [if_pos (by rw [e]; rfl)] at hQ
    refine h_22_14 hL ⟨fun h => absurd rfl h, fun _ => ⟨by omega, nmp_ref (k := 22) (by decide) hC0 (fun M' L q => h_22_26 L (h_22_34 L q)) hQ⟩⟩
  · have hl : (nx_U X).length = U0.length + 1 := by rw [e, List.length_append]; rfl
    have e1 : (nx_U X).getD ((nx_U X).length - 1) nm_u0 = (k, W) := by rw [hl, Nat.add_sub_cancel, e, List.getD_eq_getElem?_getD, List.getElem?_concat_length]; rfl
    have e2 : (nx_U X).take ((nx_U X).length - 1) = U0 := by rw [hl, Nat.add_sub_cancel, e, List.take_left']; rfl
    rw [if_neg (by omega), e1, e2] at hQ
    have hk := hok.2.2.1.2 (k, W) (by rw [e]; exact List.mem_append_right _ (List.mem_singleton.mpr rfl))
    have hk0 : 0 ≤ k := hk.1
    have hL1 := nm_Lay_fr hL F1 (by decide +kernel)
    have C1 : nm_C M1 (ns_U (ns_W X W) U0) := ⟨nm_CA_fr c1 F1 (by decide +kernel) (by decide +kernel) (by decide +kernel) (by decide +kernel), W1, nm_TX_fr c3 (by decide) hL F1 (by decide +kernel), nm_TX_fr c4 (by decide) hL F1 (by decide +kernel), nm_TX_fr c5 (by decide) hL F1 (by decide +kernel), ⟨(nm_gt_frn F1 hL (by decide) (by decide +kernel)).trans c6.1, fun k => nm_CI_fr (c6.2 k) hL (by decide) (by decide) F1 (by decide +kernel) (by decide +kernel) (by decide +kernel) (by decide +kernel)⟩, ⟨(nm_gt_frn F1 hL (by decide) (by decide +kernel)).trans c7.1, fun k => nm_CI_fr (c7.2 k) hL (by decide) (by decide) F1 (by decide +kernel) (by decide +kernel) (by decide +kernel) (by decide +kernel)⟩, U1, nm_CUp_fr c9 hL (by decide) F1 (by decide +kernel), nm_CP_fr c10 hL F1 (by decide +kernel) (by decide +kernel), nm_CR_fr c11 hL F1 (by decide +kernel), c12.imp id (fun e => nm_CW_fr e hL (by decide) F1 (by decide +kernel))⟩
    refine h_22_14 hL1 ⟨fun _ => ⟨by omega, nmx_44 C1 (fun M3 F3 C3 => h_22_34 (nm_C_L C3) (hQ M3 (nm_cFF F1 F3 (by decide +kernel) (by decide) (by decide)) C3))⟩, fun h => absurd (show k ≠ -1 by omega) h⟩
/-- image, back -/
def ns_I (X : nm_X) (k : Int) : nm_X := (X.1, fun j => if j = k then X.1 else X.2.1 j, nm_up X.2.2.1 k 1, X.2.2.2)
def sp_39 (X : nm_X) (k : Int) : nm_X × Int := if k < 0 ∨ 2 ≤ k then (nx_rf X (-1), -1) else (nx_fn (ns_I X k), 0)
def sp_40 (X : nm_X) (k : Int) : nm_X × Int := if k < 0 ∨ 2 ≤ k then (nx_rf X (-1), -1) else if nx_K X k = 0 then (nx_rf X (-2), -2) else (nx_fn (ns_U (nx_I X k, X.2) []), 0)
theorem nm_CX_cp {M M' : am_M} {n s : Int} {f : nm_Rg} {b c : Int} {S : Int → Int} {D : Int → nm_T} (h : nm_CX M c S D) (h6 : S 2 ≤ 6) (F : nm_Fg n s f M M') (hf : nm_lo f = true) (e : ∀ k, 0 ≤ k → k < 6 → am_gt M' (b + 9) k = am_gt M (c + 9) k) : nm_CX M' b S D := by
  intro k k0 k1
  rw [e k k0 (by omega)]; exact nm_CT_fr (h k k0 k1) F hf
theorem nm_TX_cp {M M' : am_M} {n s : Int} {f : nm_Rg} {b c : Int} (h : nm_TX M c) (F : nm_Fg n s f M M') (e : ∀ k, 0 ≤ k → k < 6 → am_gt M' (b + 9) k = am_gt M (c + 9) k) : nm_TX M' b := by
  intro k k0 k1
  rw [e k k0 k1]
  rcases h k k0 k1 with x | ⟨x1, x2, x3⟩
  · exact .inl x
  · exact .inr ⟨x1, by have := F.1; omega, (congrArg Prod.fst (F.2.2.2.1 _ x2)).trans x3⟩
theorem nmp_39 {d : Nat} {k : Int} {X : nm_X} {M : am_M} {Q : List am_V → am_M → Prop} (hd : 4 ≤ d) (hC : nm_C M X) (hQ : nm_KC (sp_39 X k).1 [(0, (sp_39 X k).2)] M Q) : am_CL d 39 [(2, 0), (0, k)] M Q := by
  have hL := nm_C_L hC
  have hC0 := hC
  obtain ⟨c1, c2, c3, c4, c5, c6, c7, c8, c9, c10, c11, c12⟩ := hC
  have hA := c1
  obtain ⟨-, hS, hO, hX⟩ := c1
  have o2 := hO.2.2.1
  unfold sp_39 at hQ
  have R1 : (k < 0 ∨ 2 ≤ k) → 0 < d ∧ am_CL (d - 1) 43 [(2, 0), (0, (-1))] M (fun r M' => am_WP d am_c39 14 [(2, 0), (0, k)] (r ++ []) M' Q) := by
    intro h
    rw [if_pos h] at hQ
    exact ⟨by omega, nmp_ref (k := 39) (by decide) hC0 (fun M' L q => h_39_14 L q) hQ⟩
  refine h_39_0 hL ⟨fun h => R1 (.inl h), fun h => ⟨fun h2 => ?_, fun h2 => R1 (by omega)⟩⟩
  rw [if_neg (by omega)] at hQ
  have hk : k = 0 ∨ k = 1 := by omega
  rcases hk with rfl | rfl
  · have e15 : am_gt M 15 0 = 186 := hL.2.1 (15, 0, 186) (by decide +kernel)
    rw [e15]
    refine ⟨by decide, congrArg Prod.fst (hL.1 186 (by decide) (by decide)), by omega, nmc_114_186_1 (by omega) hL hS c3 c2 (fun M1 F1 S1 t1 W1 => ?_)⟩
    have hL1 := nm_Lay_fr hL F1 (by decide +kernel)
    have F2' : nm_Fr [(16, 0, 2)] M1 (am_st M1 16 0 1) := nm_Fr_st (nm_Fg_refl _ _) (by decide)
    have F2 : nm_Fr ((nm_Sg 186 ++ [(195, 0, 6)] ++ nm_Wg 196) ++ [(16, 0, 2)]) M (am_st M1 16 0 1) := nm_Fr_trans (nm_Fr_appl F1) (nm_Fr_appr F2')
    have C2 : nm_C (am_st M1 16 0 1) (ns_I X 0) := ⟨nm_CA_fr hA F2 (by decide +kernel) (by decide +kernel) (by decide +kernel) (by decide +kernel), nm_CW_fr c2 hL (by decide) F2 (by decide +kernel), nm_TX_fr c3 (by decide) hL F2 (by decide +kernel), nm_TX_fr (nm_TX_cp c3 F1 t1) (by decide) hL1 F2' (by decide +kernel), nm_TX_fr c5 (by decide) hL F2 (by decide +kernel), ⟨by show am_gt (am_st M1 16 0 1) 16 0 = nm_up (nx_K X) 0 1 0; rw [nm_st_eq, nm_up_eq], fun _ => (show nm_CI (am_st M1 16 0 1) 186 (if (0 : Int) = 0 then X.1 else X.2.1 0) by rw [if_pos rfl]; exact nm_CI_fr ⟨S1, nm_CX_cp hX o2.2 F1 (by decide +kernel) t1, W1⟩ hL1 (by decide) (by decide) F2' (by decide +kernel) (by decide +kernel) (by decide +kernel) (by decide +kernel))⟩, ⟨by show am_gt (am_st M1 16 0 1) 16 1 = nm_up (nx_K X) 0 1 1; rw [nm_st_nj (by decide), nm_up_ne (by decide), nm_gt_frn F1 hL (by decide) (by decide +kernel)]; exact c7.1, fun q => (show nm_CI (am_st M1 16 0 1) 200 (if (1 : Int) = 0 then X.1 else X.2.1 1) by rw [if_neg (by decide)]; exact nm_CI_fr (c7.2 (by have q1 : nm_up (nx_K X) 0 1 1 = 1 := q; rw [nm_up_ne (by decide)] at q1; exact q1)) hL (by decide) (by decide) F2 (by decide +kernel) (by decide +kernel) (by decide +kernel) (by decide +kernel))⟩, nm_CU_fr (.inl rfl) c8 hL F2 (by decide +kernel), nm_CUp_fr c9 hL (by decide) F2 (by decide +kernel), nm_CP_fr c10 hL F2 (by decide +kernel) (by decide +kernel), nm_CR_fr c11 hL F2 (by decide +kernel), c12.imp id (fun e => nm_CW_fr e hL (by decide) F2 (by decide +kernel))⟩
    exact h_39_28 hL1 ⟨by decide, by decide, by omega, nmx_44 C2 (fun M3 F3 C3 => h_39_40 (nm_C_L C3) (hQ M3 (nm_cFF F2 F3 (by decide +kernel) (by decide) (by decide)) C3))⟩
  · have e15 : am_gt M 15 1 = 200 := hL.2.1 (15, 1, 200) (by decide +kernel)
    rw [e15]
    refine ⟨by decide, congrArg Prod.fst (hL.1 200 (by decide) (by decide)), by omega, nmc_114_200_1 (by omega) hL hS c3 c2 (fun M1 F1 S1 t1 W1 => ?_)⟩
    have hL1 := nm_Lay_fr hL F1 (by decide +kernel)
    have F2' : nm_Fr [(16, 0, 2)] M1 (am_st M1 16 1 1) := nm_Fr_st (nm_Fg_refl _ _) (by decide)
    have F2 : nm_Fr ((nm_Sg 200 ++ [(209, 0, 6)] ++ nm_Wg 210) ++ [(16, 0, 2)]) M (am_st M1 16 1 1) := nm_Fr_trans (nm_Fr_appl F1) (nm_Fr_appr F2')
    have C2 : nm_C (am_st M1 16 1 1) (ns_I X 1) := ⟨nm_CA_fr hA F2 (by decide +kernel) (by decide +kernel) (by decide +kernel) (by decide +kernel), nm_CW_fr c2 hL (by decide) F2 (by decide +kernel), nm_TX_fr c3 (by decide) hL F2 (by decide +kernel), nm_TX_fr c4 (by decide) hL F2 (by decide +kernel), nm_TX_fr (nm_TX_cp c3 F1 t1) (by decide) hL1 F2' (by decide +kernel), ⟨by show am_gt (am_st M1 16 1 1) 16 0 = nm_up (nx_K X) 1 1 0; rw [nm_st_nj (by decide), nm_up_ne (by decide), nm_gt_frn F1 hL (by decide) (by decide +kernel)]; exact c6.1, fun q => (show nm_CI (am_st M1 16 1 1) 186 (if (0 : Int) = 1 then X.1 else X.2.1 0) by rw [if_neg (by decide)]; exact nm_CI_fr (c6.2 (by have q1 : nm_up (nx_K X) 1 1 0 = 1 := q; rw [nm_up_ne (by decide)] at q1; exact q1)) hL (by decide) (by decide) F2 (by decide +kernel) (by decide +kernel) (by decide +kernel) (by decide +kernel))⟩, ⟨by show am_gt (am_st M1 16 1 1) 16 1 = nm_up (nx_K X) 1 1 1; rw [nm_st_eq, nm_up_eq], fun _ => (show nm_CI (am_st M1 16 1 1) 200 (if (1 : Int) = 1 then X.1 else X.2.1 1) by rw [if_pos rfl]; exact nm_CI_fr ⟨S1, nm_CX_cp hX o2.2 F1 (by decide +kernel) t1, W1⟩ hL1 (by decide) (by decide) F2' (by decide +kernel) (by decide +kernel) (by decide +kernel) (by decide +kernel))⟩, nm_CU_fr (.inl rfl) c8 hL F2 (by decide +kernel), nm_CUp_fr c9 hL (by decide) F2 (by decide +kernel), nm_CP_fr c10 hL F2 (by decide +kernel) (by decide +kernel), nm_CR_fr c11 hL F2 (by decide +kernel), c12.imp id (fun e => nm_CW_fr e hL (by decide) F2 (by decide +kernel))⟩
    exact h_39_28 hL1 ⟨by decide, by decide, by omega, nmx_44 C2 (fun M3 F3 C3 => h_39_40 (nm_C_L C3) (hQ M3 (nm_cFF F2 F3 (by decide +kernel) (by decide) (by decide)) C3))⟩
theorem nmp_40 {d : Nat} {k : Int} {X : nm_X} {M : am_M} {Q : List am_V → am_M → Prop} (hd : 4 ≤ d) (hC : nm_C M X) (hok : nm_ok X) (hQ : nm_KC (sp_40 X k).1 [(0, (sp_40 X k).2)] M Q) : am_CL d 40 [(2, 0), (0, k)] M Q := by
  have hL := nm_C_L hC
  have hC0 := hC
  obtain ⟨c1, c2, c3, c4, c5, c6, c7, c8, c9, c10, c11, c12⟩ := hC
  unfold sp_40 at hQ
  have R1 : (k < 0 ∨ 2 ≤ k) → 0 < d ∧ am_CL (d - 1) 43 [(2, 0), (0, (-1))] M (fun r M' => am_WP d am_c40 14 [(2, 0), (0, k)] (r ++ []) M' Q) := by
    intro h
    rw [if_pos h] at hQ
    exact ⟨by omega, nmp_ref (k := 40) (by decide) hC0 (fun M' L q => h_40_14 L q) hQ⟩
  refine h_40_0 hL ⟨fun h => R1 (.inl h), fun h => ⟨fun h2 => ⟨by omega, ?_⟩, fun h2 => R1 (by omega)⟩⟩
  rw [if_neg (by omega)] at hQ
  have hk : k = 0 ∨ k = 1 := by omega
  rcases hk with rfl | rfl
  · have e15 : am_gt M 15 0 = 186 := hL.2.1 (15, 0, 186) (by decide +kernel)
    rw [e15, c6.1]
    refine ⟨fun hk => ⟨by omega, ?_⟩, fun hk => ?_⟩
    · rw [if_neg hk] at hQ
      obtain ⟨e1, og⟩ := (hok.2.1 0 (by decide) (by decide)).resolve_left hk
      have gI := c6.2 e1
      refine nmc_114_1_186 (by omega) hL gI.1 c4 gI.2.2 (fun M1 F1 S1 t1 W1 => ?_)
      have hL1 := nm_Lay_fr hL F1 (by decide +kernel)
      have F2' : nm_Fr [(34, 0, 1)] M1 (am_st M1 34 0 0) := nm_Fr_st (nm_Fg_refl _ _) (by decide)
      have F2 : nm_Fr ((nm_Sg 1 ++ [(10, 0, 6)] ++ nm_Wg 11) ++ [(34, 0, 1)]) M (am_st M1 34 0 0) := nm_Fr_trans (nm_Fr_appl F1) (nm_Fr_appr F2')
      have C2 : nm_C (am_st M1 34 0 0) (ns_U (nx_I X 0, X.2) []) := ⟨⟨nm_Lay_fr hL F2 (by decide +kernel), nm_CS_fr S1 hL1 (by decide) F2' (by decide +kernel), og.1, nm_CX_fr (nm_CX_cp gI.2.1 og.1.2.2.1.2 F1 (by decide +kernel) t1) (by decide) hL1 F2' (by decide +kernel) (by decide +kernel)⟩, nm_CW_fr W1 hL1 (by decide) F2' (by decide +kernel), nm_TX_fr (nm_TX_cp c4 F1 t1) (by decide) hL1 F2' (by decide +kernel), nm_TX_fr c4 (by decide) hL F2 (by decide +kernel), nm_TX_fr c5 (by decide) hL F2 (by decide +kernel), ⟨(nm_gt_frn F2 hL (by decide) (by decide +kernel)).trans c6.1, fun k => nm_CI_fr (c6.2 k) hL (by decide) (by decide) F2 (by decide +kernel) (by decide +kernel) (by decide +kernel) (by decide +kernel)⟩, ⟨(nm_gt_frn F2 hL (by decide) (by decide +kernel)).trans c7.1, fun k => nm_CI_fr (c7.2 k) hL (by decide) (by decide) F2 (by decide +kernel) (by decide +kernel) (by decide +kernel) (by decide +kernel)⟩, nm_CU_nil (nm_CUp_fr c8.1 hL (by decide) F2 (by decide +kernel)) nm_st_eq, nm_CUp_fr c9 hL (by decide) F2 (by decide +kernel), nm_CP_fr c10 hL F2 (by decide +kernel) (by decide +kernel), nm_CR_fr c11 hL F2 (by decide +kernel), c12.imp id (fun e => nm_CW_fr e hL (by decide) F2 (by decide +kernel))⟩
      exact h_40_44 hL1 ⟨by omega, nmx_44 C2 (fun M3 F3 C3 => h_40_57 (nm_C_L C3) (hQ M3 (nm_cFF F2 F3 (by decide +kernel) (by decide) (by decide)) C3))⟩
    · rw [if_pos (by omega)] at hQ
      exact ⟨by omega, nmp_ref (k := 40) (by decide) hC0 (fun M' L q => h_40_30 L q) hQ⟩
  · have e15 : am_gt M 15 1 = 200 := hL.2.1 (15, 1, 200) (by decide +kernel)
    rw [e15, c7.1]
    refine ⟨fun hk => ⟨by omega, ?_⟩, fun hk => ?_⟩
    · rw [if_neg hk] at hQ
      obtain ⟨e1, og⟩ := (hok.2.1 1 (by decide) (by decide)).resolve_left hk
      have gI := c7.2 e1
      refine nmc_114_1_200 (by omega) hL gI.1 c5 gI.2.2 (fun M1 F1 S1 t1 W1 => ?_)
      have hL1 := nm_Lay_fr hL F1 (by decide +kernel)
      have F2' : nm_Fr [(34, 0, 1)] M1 (am_st M1 34 0 0) := nm_Fr_st (nm_Fg_refl _ _) (by decide)
      have F2 : nm_Fr ((nm_Sg 1 ++ [(10, 0, 6)] ++ nm_Wg 11) ++ [(34, 0, 1)]) M (am_st M1 34 0 0) := nm_Fr_trans (nm_Fr_appl F1) (nm_Fr_appr F2')
      have C2 : nm_C (am_st M1 34 0 0) (ns_U (nx_I X 1, X.2) []) := ⟨⟨nm_Lay_fr hL F2 (by decide +kernel), nm_CS_fr S1 hL1 (by decide) F2' (by decide +kernel), og.1, nm_CX_fr (nm_CX_cp gI.2.1 og.1.2.2.1.2 F1 (by decide +kernel) t1) (by decide) hL1 F2' (by decide +kernel) (by decide +kernel)⟩, nm_CW_fr W1 hL1 (by decide) F2' (by decide +kernel), nm_TX_fr (nm_TX_cp c5 F1 t1) (by decide) hL1 F2' (by decide +kernel), nm_TX_fr c4 (by decide) hL F2 (by decide +kernel), nm_TX_fr c5 (by decide) hL F2 (by decide +kernel), ⟨(nm_gt_frn F2 hL (by decide) (by decide +kernel)).trans c6.1, fun k => nm_CI_fr (c6.2 k) hL (by decide) (by decide) F2 (by decide +kernel) (by decide +kernel) (by decide +kernel) (by decide +kernel)⟩, ⟨(nm_gt_frn F2 hL (by decide) (by decide +kernel)).trans c7.1, fun k => nm_CI_fr (c7.2 k) hL (by decide) (by decide) F2 (by decide +kernel) (by decide +kernel) (by decide +kernel) (by decide +kernel)⟩, nm_CU_nil (nm_CUp_fr c8.1 hL (by decide) F2 (by decide +kernel)) nm_st_eq, nm_CUp_fr c9 hL (by decide) F2 (by decide +kernel), nm_CP_fr c10 hL F2 (by decide +kernel) (by decide +kernel), nm_CR_fr c11 hL F2 (by decide +kernel), c12.imp id (fun e => nm_CW_fr e hL (by decide) F2 (by decide +kernel))⟩
      exact h_40_44 hL1 ⟨by omega, nmx_44 C2 (fun M3 F3 C3 => h_40_57 (nm_C_L C3) (hQ M3 (nm_cFF F2 F3 (by decide +kernel) (by decide) (by decide)) C3))⟩
    · rw [if_pos (by omega)] at hQ
      exact ⟨by omega, nmp_ref (k := 40) (by decide) hC0 (fun M' L q => h_40_30 L q) hQ⟩
