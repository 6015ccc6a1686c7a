/-! CALLS OF THE CLASS: what changes the works, images -/
def nm_chA (S : Int → Int) (W : nm_W) (T : nm_T) (k m b : Int) : Int :=
  if k = 0 then nm_hangR S W T m
  else if k = 1 then (if m < 0 ∨ S 0 ≤ m then -2 else if nm_ix W.2.1 m = -1 then -3 else nm_ix W.2.1 m)
  else if k = 2 then (if b < 1 ∨ 30 < b then -1 else if m < 0 ∨ S 0 ≤ m then -2 else if W.2.2.2 0 = 0 then -3 else min 30 (W.2.2.1 m + b))
  else (if 999 ≤ W.1 then -3 else ((nm_all S W T (S 7)).length : Int))
def nm_chW (S : Int → Int) (W : nm_W) (T : nm_T) (k m b : Int) : nm_W :=
  if k = 0 then nm_hangW W m else if k = 1 then nm_downW W (nm_ix W.2.1 m).toNat
  else if k = 2 then (W.1, W.2.1, nm_up W.2.2.1 m (min 30 (W.2.2.1 m + b)), nm_up W.2.2.2 0 (W.2.2.2 0 - 1)) else nm_pass S T W
def nm_ch (X : nm_X) (k m b : Int) : nm_X × Int := if nm_chA (nx_S X) (nx_W X) (nm_lwf (nx_S X) (nx_D X)) k m b < 0 then (X, nm_chA (nx_S X) (nx_W X) (nm_lwf (nx_S X) (nx_D X)) k m b) else (ns_U (ns_W X (nm_chW (nx_S X) (nx_W X) (nm_lwf (nx_S X) (nx_D X)) k m b)) (nm_keep (nx_U X) k (nx_W X)), nm_chA (nx_S X) (nx_W X) (nm_lwf (nx_S X) (nx_D X)) k m b)
theorem nm_okW_work {n : Int} {S : Int → Int} {T : nm_T} {W : nm_W} (h : nm_okW n W) : nm_okW n (nm_work S T W) := by
  obtain ⟨h1, h2, h3, h4, h5, h6⟩ := h
  refine ⟨h1, h2, h3, h4, h5, fun p a b => ?_⟩
  have := h6 p a b
  show 0 ≤ min 99 _ ∧ min 99 _ ≤ 99
  omega
theorem nm_okW_wear {n : Int} {S : Int → Int} {T : nm_T} {W : nm_W} (h : nm_okW n W) (hn : W.1 ≤ 1998) : nm_okW n (nm_wearW S T W) := by
  obtain ⟨h1, h2, h3, h4, h5, h6⟩ := h
  refine ⟨?_, ?_, List.Nodup.sublist List.filter_sublist h3, fun m hm => h4 m (List.mem_filter.mp hm).1, fun m a b => nm_ws_in (h5 m a b), h6⟩
  · show 0 ≤ W.1 + 1; omega
  · show W.1 + 1 ≤ 1999; omega
theorem nm_okW_pass {n : Int} {S : Int → Int} {T : nm_T} {W : nm_W} (h : nm_okW n W) (hn : W.1 ≤ 1998) : nm_okW n (nm_pass S T W) := nm_okW_wear (nm_okW_work h) hn
theorem nm_okW_hang {n m : Int} {W : nm_W} (h : nm_okW n W) (a : 0 ≤ m) (b : m < n) (c : m ∉ W.2.1) : nm_okW n (nm_hangW W m) := by
  obtain ⟨h1, h2, h3, h4, h5, h6⟩ := h
  refine ⟨h1, h2, ?_, fun k hk => ?_, h5, h6⟩
  · show (W.2.1 ++ [m]).Nodup
    rw [List.nodup_append]
    exact ⟨h3, (show List.Pairwise _ [m] from List.pairwise_singleton _ _), fun x hx y hy e => c (by rw [List.mem_singleton] at hy; rw [← hy, ← e]; exact hx)⟩
  · have hk : k ∈ W.2.1 ++ [m] := hk
    rcases List.mem_append.mp hk with h | h
    · exact h4 k h
    · rw [List.mem_singleton] at h; omega
theorem nm_okW_down {n : Int} {p : Nat} {W : nm_W} (h : nm_okW n W) : nm_okW n (nm_downW W p) := by
  obtain ⟨h1, h2, h3, h4, h5, h6⟩ := h
  exact ⟨h1, h2, List.Nodup.sublist (List.eraseIdx_sublist _ _) h3, fun k hk => h4 k (List.mem_of_mem_eraseIdx hk), h5, h6⟩
theorem nm_chA_cases (S : Int → Int) (W : nm_W) (T : nm_T) (k m b : Int) (hs : 0 ≤ m → m < S 0 → 0 ≤ W.2.2.1 m) : 0 ≤ nm_chA S W T k m b ∨ nm_chA S W T k m b = -1 ∨ nm_chA S W T k m b = -2 ∨ nm_chA S W T k m b = -3 ∨ nm_chA S W T k m b = -5 ∨ nm_chA S W T k m b = -6 := by
  unfold nm_chA nm_hangR
  have hx : nm_ix W.2.1 m = -1 ∨ 0 ≤ nm_ix W.2.1 m := by
    rcases nm_ix_cases W.2.1 m with ⟨e, -⟩ | ⟨k, -, -, e⟩ <;> omega
  repeat' split
  all_goals omega
abbrev nm_chF : nm_Rg := nm_Wg 168 ++ ((nm_Ag ++ nm_Wg 11) ++ nm_Ug 34)
theorem nmc_54 {d : Nat} {k m b : Int} {X : nm_X} {M : am_M} {Q : List am_V → am_M → Prop} (hd : 8 ≤ d) (hk : 0 ≤ k ∧ k ≤ 3) (hC : nm_C M X) (hok : nm_ok X) (hQ : ∀ M', nm_Fr nm_chF M M' → nm_C M' (nm_ch X k m b).1 → Q [(0, (nm_ch X k m b).2)] M') : am_CL d 54 [(2, 0), (0, k), (0, m), (0, b)] M Q := by
  have oW : nm_okW (nx_S X 0) (nx_W X) := hok.1.2.2.1
  have hn9 : (nx_W X).1 ≤ 999 := hok.1.2.2.2
  refine h_54_0 (nm_C_L hC) ⟨by omega, nmc_136 (by omega) (nm_C_L hC) (by decide) (by decide) (by decide) hC.2.1 (fun M1 F1 V1 => ?_)⟩
  have hC1 : nm_C M1 X := nm_C_fr hC F1 (by decide +kernel)
  have hC := hC1
  have hL := nm_C_L hC1
  obtain ⟨c1, c2, c3, c4, c5, c6, c7, c8, c9, c10, c11, c12⟩ := hC
  have hA := c1
  obtain ⟨-, hS, hO, hX⟩ := c1
  have s0 := nm_s0 hS
  have neg : ∀ M2 a, a < 0 → nm_chA (nx_S X) (nx_W X) (nm_lwf (nx_S X) (nx_D X)) k m b = a → nm_Fr (nm_Ag ++ nm_Wg 11) M1 M2 → nm_C M2 X → am_WP d am_c54 140 [(2, 0), (0, k), (0, m), (0, b), (2, 11), (0, a)] [] M2 Q := by
    intro M2 a ha ea F2 C2
    refine h_54_140 (nm_C_L C2) ⟨fun _ => h_54_157 (nm_C_L C2) ?_, fun h => absurd ha h⟩
    have := hQ M2 (nm_Fr_trans (nm_Fr_appl F1) (nm_Fr_appr (nm_Fr_appl F2)))
    unfold nm_ch at this
    rw [if_pos (by rw [ea]; exact ha), ea] at this
    exact this C2
  have pos : ∀ M2 a, 0 ≤ a → nm_chA (nx_S X) (nx_W X) (nm_lwf (nx_S X) (nx_D X)) k m b = a → nm_Fr (nm_Ag ++ nm_Wg 11) M1 M2 → nm_CW M2 11 (nm_chW (nx_S X) (nx_W X) (nm_lwf (nx_S X) (nx_D X)) k m b) → am_WP d am_c54 140 [(2, 0), (0, k), (0, m), (0, b), (2, 11), (0, a)] [] M2 Q := by
    intro M2 a ha ea F2 W2
    have hL2 := nm_Lay_fr hL F2 (by decide +kernel)
    refine h_54_140 hL2 ⟨fun h => absurd ha (by omega), fun _ => ⟨by omega, nmc_131 (by omega) hL2 (nm_CU_fr (.inl rfl) c8 hL F2 (by decide +kernel)) (nm_CW_fr V1 hL (by decide) F2 (by decide +kernel)) (fun M3 F3 U3 => ?_)⟩⟩
    have hL3 := nm_LayU (.inl rfl) hL2 F3
    have F13 : nm_Fr ((nm_Ag ++ nm_Wg 11) ++ nm_Ug 34) M1 M3 := nm_Fr_trans (nm_Fr_appl F2) (nm_Fr_appr F3)
    refine h_54_157 hL3 ?_
    have := hQ M3 (nm_Fr_trans (nm_Fr_appl F1) (nm_Fr_appr F13))
    unfold nm_ch at this
    rw [if_neg (by rw [ea]; omega), ea] at this
    refine this ?_
    exact ⟨nm_CA_fr hA F13 (by decide +kernel) (by decide +kernel) (by decide +kernel) (by decide +kernel), nm_CW_fr W2 hL2 (by decide) F3 (by decide +kernel), nm_TX_fr c3 (by decide) hL F13 (by decide +kernel), nm_TX_fr c4 (by decide) hL F13 (by decide +kernel), nm_TX_fr c5 (by decide) hL F13 (by decide +kernel), ⟨(nm_gt_frn F13 hL (by decide) (by decide +kernel)).trans c6.1, fun k => nm_CI_fr (c6.2 k) hL (by decide) (by decide) F13 (by decide +kernel) (by decide +kernel) (by decide +kernel) (by decide +kernel)⟩, ⟨(nm_gt_frn F13 hL (by decide) (by decide +kernel)).trans c7.1, fun k => nm_CI_fr (c7.2 k) hL (by decide) (by decide) F13 (by decide +kernel) (by decide +kernel) (by decide +kernel) (by decide +kernel)⟩, U3, nm_CUp_fr c9 hL (by decide) F13 (by decide +kernel), nm_CP_fr c10 hL F13 (by decide +kernel) (by decide +kernel), nm_CR_fr c11 hL F13 (by decide +kernel), c12.imp id (fun e => nm_CW_fr e hL (by decide) F13 (by decide +kernel))⟩
  refine h_54_18 hL ⟨fun h0 => ?_, fun h0 => ⟨fun h1 => ?_, fun h1 => ⟨fun h2 => ?_, fun h2 => ?_⟩⟩⟩
  · have eA : nm_chA (nx_S X) (nx_W X) (nm_lwf (nx_S X) (nx_D X)) k m b = nm_hangR (nx_S X) (nx_W X) (nm_lwf (nx_S X) (nx_D X)) m := by unfold nm_chA; rw [if_pos h0]
    have eW : nm_chW (nx_S X) (nx_W X) (nm_lwf (nx_S X) (nx_D X)) k m b = nm_hangW (nx_W X) m := by unfold nm_chW; rw [if_pos h0]
    refine ⟨by omega, nmc_62 (by omega) hA (by decide) c2 oW (fun M2 hneg F2 => ?_) (fun M2 hpos hin F2 W2 => ?_)⟩
    · exact h_54_54 (nm_Lay_fr hL F2 (by decide +kernel)) ⟨fun _ => neg M2 _ hneg eA (nm_Fr_appl F2) (nm_C_fr hC1 F2 (by decide +kernel)), fun h => absurd h (by omega)⟩
    · refine h_54_54 (nm_Lay_fr hL F2 (by decide +kernel)) ⟨fun _ => pos M2 _ (by omega) (eA.trans hpos) F2 (by rw [eW]; exact W2), fun h => absurd h (by omega)⟩
  · have eA : nm_chA (nx_S X) (nx_W X) (nm_lwf (nx_S X) (nx_D X)) k m b = if m < 0 ∨ nx_S X 0 ≤ m then -2 else if nm_ix (nx_W X).2.1 m = -1 then -3 else nm_ix (nx_W X).2.1 m := by unfold nm_chA; rw [if_neg h0, if_pos h1]
    have R := nm_Fg_refl (nm_Ag ++ nm_Wg 11) M1
    refine ⟨by omega, nmc_46 hL (fun a0 a1 => ?_) (fun a0 => ?_)⟩
    · rw [s0] at a1
      rw [if_neg (by omega)] at eA
      refine h_54_64 hL ⟨fun h => absurd h (by decide), fun _ => ⟨by omega, nmc_138 (by omega) hL (by decide) c2 (fun e => ?_) (fun j M2 hj e F2 W2 => ?_)⟩⟩
      · rw [if_pos e] at eA
        exact h_54_73 hL ⟨fun _ => neg M1 _ (by decide) eA R hC1, fun h => absurd h (by omega)⟩
      · rw [if_neg (by omega), e] at eA
        refine h_54_73 (nm_Lay_fr hL F2 (by decide +kernel)) ⟨fun _ => pos M2 _ (by omega) eA (nm_Fr_appr F2) ?_, fun h => absurd h (by omega)⟩
        unfold nm_chW; rw [if_neg h0, if_pos h1, e]; exact W2
    · rw [s0] at a0
      rw [if_pos a0] at eA
      exact h_54_64 hL ⟨fun _ => ⟨fun _ => neg M1 _ (by decide) eA R hC1, fun h => absurd h (by omega)⟩, fun h => absurd rfl h⟩
  · have eA : nm_chA (nx_S X) (nx_W X) (nm_lwf (nx_S X) (nx_D X)) k m b = if b < 1 ∨ 30 < b then -1 else if m < 0 ∨ nx_S X 0 ≤ m then -2 else if (nx_W X).2.2.2 0 = 0 then -3 else min 30 ((nx_W X).2.2.1 m + b) := by unfold nm_chA; rw [if_neg h0, if_neg h1, if_pos h2]
    have R := nm_Fg_refl (nm_Ag ++ nm_Wg 11) M1
    have n89 : ∀ a, a < 0 → nm_chA (nx_S X) (nx_W X) (nm_lwf (nx_S X) (nx_D X)) k m b = a → am_WP d am_c54 89 [(2, 0), (0, k), (0, m), (0, b), (2, 11), (9, 0)] [(0, a)] M1 Q := fun a ha ea => h_54_89 hL ⟨fun _ => neg M1 _ ha ea R hC1, fun h => absurd h (by omega)⟩
    refine ⟨by omega, h_55_0 hL ⟨fun b1 => n89 _ (by decide) (by rw [eA, if_pos (by omega)]), fun b1 => ⟨fun b2 => ⟨by omega, nmc_46 hL (fun a0 a1 => ?_) (fun a0 => ?_)⟩, fun b2 => n89 _ (by decide) (by rw [eA, if_pos (by omega)])⟩⟩⟩
    · rw [s0] at a1
      rw [if_neg (by omega), if_neg (by omega)] at eA
      have g14 : am_gt M1 14 0 = (nx_W X).2.2.2 0 := c2.2.2.2.2.2 0 (by decide) (by decide)
      have o0 := hO.1
      have g13 : am_gt M1 13 m = (nx_W X).2.2.1 m := c2.2.2.2.2.1 m a0 (by omega)
      have bs := oW.2.2.2.2.1 m a0 (by omega)
      have bt := oW.2.2.2.2.2 0 (by decide) (by decide)
      refine h_55_18 hL ⟨fun _ => ?_, fun h => absurd h (by decide)⟩
      rw [g14, g13, am_w_id (x := _ + b) (by omega) (by omega), am_w_id (x := _ - 1) (by omega) (by omega)]
      refine ⟨fun z => ⟨a0, by omega, by omega, ?_⟩, fun z => n89 _ (by decide) (by rw [eA, if_pos (by omega)])⟩
      have F2 : nm_Fr (nm_Ag ++ nm_Wg 11) M1 (am_st (am_st M1 14 0 ((nx_W X).2.2.2 0 - 1)) 13 m (min 30 ((nx_W X).2.2.1 m + b))) := nm_Fr_st (nm_Fr_st (nm_Fg_refl _ _) (by decide +kernel)) (nm_in_c (lo := 0) (hi := 6) (by decide +kernel) a0 (by omega))
      refine h_54_89 (nm_Lay_fr hL F2 (by decide +kernel)) ⟨fun _ => pos _ _ (by omega) (by rw [eA, if_neg z]) F2 ?_, fun h => absurd h (by omega)⟩
      unfold nm_chW; rw [if_neg h0, if_neg h1, if_pos h2]
      exact nm_CW_s (w := 11) (nm_CW_t (w := 11) (m := 0) (v := (nx_W X).2.2.2 0 - 1) c2)
    · rw [s0] at a0
      refine h_55_18 hL ⟨fun h => absurd rfl h, fun _ => n89 _ (by decide) (by rw [eA, if_neg (by omega), if_pos a0])⟩
  · have hk3 : k = 3 := by omega
    have eA : nm_chA (nx_S X) (nx_W X) (nm_lwf (nx_S X) (nx_D X)) k m b = if 999 ≤ (nx_W X).1 then -3 else ((nm_all (nx_S X) (nx_W X) (nm_lwf (nx_S X) (nx_D X)) (nx_S X 7)).length : Int) := by unfold nm_chA; rw [if_neg h0, if_neg h1, if_neg h2]
    have R := nm_Fg_refl (nm_Ag ++ nm_Wg 11) M1
    rw [c2.1]
    refine ⟨fun hn => ⟨fun h => absurd hk3 h, fun _ => ⟨fun _ => neg M1 _ (by decide) (by rw [eA, if_pos hn]) R hC1, fun h => absurd (by decide) h⟩⟩, fun hn => ⟨by omega, nmc_63 (by omega) hA (by decide) c2 oW (fun M2 F2 W2 => ?_)⟩⟩
    have hL2 := nm_Lay_fr hL F2 (by decide +kernel)
    have hA2 := nm_CA_AW hA (by decide) F2
    refine h_54_114 hL2 ⟨fun h => absurd hk3 h, fun _ => ⟨fun h => absurd h (by omega), fun _ => ⟨by omega, nmc_64 (by omega) hA2 (by decide) W2 (nm_okW_work oW) (fun M3 F3 W3 => ?_)⟩⟩⟩
    refine pos M3 _ (by omega) (by rw [eA, if_neg hn]) (nm_Fr_trans F2 F3) ?_
    unfold nm_chW; rw [if_neg h0, if_neg h1, if_neg h2]; exact W3
/-- hang, down, polish, pass -/
def sp_ch (X : nm_X) (k m b : Int) : nm_X × Int := (nx_tl (nm_ch X k m b).1 (nm_ch X k m b).2, (nm_ch X k m b).2)
theorem nm_ch_a (X : nm_X) (k m b : Int) : (nm_ch X k m b).2 = nm_chA (nx_S X) (nx_W X) (nm_lwf (nx_S X) (nx_D X)) k m b := by unfold nm_ch; split <;> rfl
theorem nm_ch_in {X : nm_X} (hok : nm_ok X) (k m b : Int) : 0 ≤ (nm_ch X k m b).2 ∨ (nm_ch X k m b).2 = -1 ∨ (nm_ch X k m b).2 = -2 ∨ (nm_ch X k m b).2 = -3 ∨ (nm_ch X k m b).2 = -5 ∨ (nm_ch X k m b).2 = -6 := by
  rw [nm_ch_a]
  exact nm_chA_cases _ _ _ _ _ _ (fun a c => (hok.1.2.2.1.2.2.2.2.1 m a (by have : nx_S X 0 ≤ 6 := hok.1.1.1.2; omega)).1)
theorem nmp_18 {d : Nat} {m : Int} {X : nm_X} {M : am_M} {Q : List am_V → am_M → Prop} (hd : 9 ≤ d) (hC : nm_C M X) (hok : nm_ok X) (hQ : nm_KC (sp_ch X 0 m 0).1 [(0, (sp_ch X 0 m 0).2)] M Q) : am_CL d 18 [(2, 0), (0, m)] M Q := by
  refine h_18_0 (nm_C_L hC) ⟨by omega, nmc_54 (by omega) (by decide) hC hok (fun M1 F1 C1 => h_18_8 (nm_C_L C1) ⟨by omega, nmx_45 (by omega) (nm_ch_in hok _ _ _) C1 (fun M2 F2 C2 => h_18_11 (nm_C_L C2) (hQ M2 (nm_cFF F1 F2 (by decide +kernel) (by decide) (by decide)) C2))⟩)⟩
theorem nmp_19 {d : Nat} {m : Int} {X : nm_X} {M : am_M} {Q : List am_V → am_M → Prop} (hd : 9 ≤ d) (hC : nm_C M X) (hok : nm_ok X) (hQ : nm_KC (sp_ch X 1 m 0).1 [(0, (sp_ch X 1 m 0).2)] M Q) : am_CL d 19 [(2, 0), (0, m)] M Q := by
  refine h_19_0 (nm_C_L hC) ⟨by omega, nmc_54 (by omega) (by decide) hC hok (fun M1 F1 C1 => h_19_8 (nm_C_L C1) ⟨by omega, nmx_45 (by omega) (nm_ch_in hok _ _ _) C1 (fun M2 F2 C2 => h_19_11 (nm_C_L C2) (hQ M2 (nm_cFF F1 F2 (by decide +kernel) (by decide) (by decide)) C2))⟩)⟩
theorem nmp_20 {d : Nat} {m b : Int} {X : nm_X} {M : am_M} {Q : List am_V → am_M → Prop} (hd : 9 ≤ d) (hC : nm_C M X) (hok : nm_ok X) (hQ : nm_KC (sp_ch X 2 m b).1 [(0, (sp_ch X 2 m b).2)] M Q) : am_CL d 20 [(2, 0), (0, m), (0, b)] M Q := by
  refine h_20_0 (nm_C_L hC) ⟨by omega, nmc_54 (by omega) (by decide) hC hok (fun M1 F1 C1 => h_20_8 (nm_C_L C1) ⟨by omega, nmx_45 (by omega) (nm_ch_in hok _ _ _) C1 (fun M2 F2 C2 => h_20_11 (nm_C_L C2) (hQ M2 (nm_cFF F1 F2 (by decide +kernel) (by decide) (by decide)) C2))⟩)⟩
theorem nmp_21 {d : Nat} {X : nm_X} {M : am_M} {Q : List am_V → am_M → Prop} (hd : 9 ≤ d) (hC : nm_C M X) (hok : nm_ok X) (hQ : nm_KC (sp_ch X 3 (-1) 0).1 [(0, (sp_ch X 3 (-1) 0).2)] M Q) : am_CL d 21 [(2, 0)] M Q := by
  refine h_21_0 (nm_C_L hC) ⟨by omega, nmc_54 (by omega) (by decide) hC hok (fun M1 F1 C1 => h_21_8 (nm_C_L C1) ⟨by omega, nmx_45 (by omega) (nm_ch_in hok _ _ _) C1 (fun M2 F2 C2 => h_21_11 (nm_C_L C2) (hQ M2 (nm_cFF F1 F2 (by decide +kernel) (by decide) (by decide)) C2))⟩)⟩
/-- undo -/
def sp_22 (X : nm_X) : nm_X × Int := if (nx_U X).length = 0 then (nx_rf X (-3), -3) else (nx_fn (ns_U (ns_W X ((nx_U X).getD ((nx_U X).length - 1) nm_u0).2) ((nx_U X).take ((nx_U X).length - 1))), ((nx_U X).getD ((nx_U X).length - 1) nm_u0).1)
theorem nmp_22 {d : Nat} {X : nm_X} {M : am_M} {Q : List am_V → am_M → Prop} (hd : 4 ≤ d) (hC : nm_C M X) (hok : nm_ok X) (hQ : nm_KC (sp_22 X).1 [(0, (sp_22 X).2)] M Q) : am_CL d 22 [(2, 0)] M Q := by
  have hL := nm_C_L hC
  have hC0 := hC
  obtain ⟨c1, c2, c3, c4, c5, c6, c7, c8, c9, c10, c11, c12⟩ := hC
  unfold sp_22 at hQ
  refine h_22_0 hL ⟨by omega, nmc_133 (by omega) hL c8 (fun e => ?_) (fun U0 k W M1 e F1 U1 W1 => ?_)⟩
  · rw [if_pos (by rw [e]; rfl)] at hQ
    refine h_22_14 hL ⟨fun h => absurd rfl h, fun _ => ⟨by omega, nmp_ref (k := 22) (by decide) hC0 (fun M' L q => h_22_26 L (h_22_34 L q)) hQ⟩⟩
  · have hl : (nx_U X).length = U0.length + 1 := by rw [e, List.length_append]; rfl
    have e1 : (nx_U X).getD ((nx_U X).length - 1) nm_u0 = (k, W) := by rw [hl, Nat.add_sub_cancel, e, List.getD_eq_getElem?_getD, List.getElem?_concat_length]; rfl
    have e2 : (nx_U X).take ((nx_U X).length - 1) = U0 := by rw [hl, Nat.add_sub_cancel, e, List.take_left']; rfl
    rw [if_neg (by omega), e1, e2] at hQ
    have hk := hok.2.2.1.2 (k, W) (by rw [e]; exact List.mem_append_right _ (List.mem_singleton.mpr rfl))
    have hk0 : 0 ≤ k := hk.1
    have hL1 := nm_Lay_fr hL F1 (by decide +kernel)
    have C1 : nm_C M1 (ns_U (ns_W X W) U0) := ⟨nm_CA_fr c1 F1 (by decide +kernel) (by decide +kernel) (by decide +kernel) (by decide +kernel), W1, nm_TX_fr c3 (by decide) hL F1 (by decide +kernel), nm_TX_fr c4 (by decide) hL F1 (by decide +kernel), nm_TX_fr c5 (by decide) hL F1 (by decide +kernel), ⟨(nm_gt_frn F1 hL (by decide) (by decide +kernel)).trans c6.1, fun k => nm_CI_fr (c6.2 k) hL (by decide) (by decide) F1 (by decide +kernel) (by decide +kernel) (by decide +kernel) (by decide +kernel)⟩, ⟨(nm_gt_frn F1 hL (by decide) (by decide +kernel)).trans c7.1, fun k => nm_CI_fr (c7.2 k) hL (by decide) (by decide) F1 (by decide +kernel) (by decide +kernel) (by decide +kernel) (by decide +kernel)⟩, U1, nm_CUp_fr c9 hL (by decide) F1 (by decide +kernel), nm_CP_fr c10 hL F1 (by decide +kernel) (by decide +kernel), nm_CR_fr c11 hL F1 (by decide +kernel), c12.imp id (fun e => nm_CW_fr e hL (by decide) F1 (by decide +kernel))⟩
    refine h_22_14 hL1 ⟨fun _ => ⟨by omega, nmx_44 C1 (fun M3 F3 C3 => h_22_34 (nm_C_L C3) (hQ M3 (nm_cFF F1 F3 (by decide +kernel) (by decide) (by decide)) C3))⟩, fun h => absurd (show k ≠ -1 by omega) h⟩
/-- image, back -/
def ns_I (X : nm_X) (k : Int) : nm_X := (X.1, fun j => if j = k then X.1 else X.2.1 j, nm_up X.2.2.1 k 1, X.2.2.2)
def sp_39 (X : nm_X) (k : Int) : nm_X × Int := if k < 0 ∨ 2 ≤ k then (nx_rf X (-1), -1) else (nx_fn (ns_I X k), 0)
def sp_40 (X : nm_X) (k : Int) : nm_X × Int := if k < 0 ∨ 2 ≤ k then (nx_rf X (-1), -1) else if nx_K X k = 0 then (nx_rf X (-2), -2) else (nx_fn (ns_U (nx_I X k, X.2) []), 0)
theorem nm_CX_cp {M M' : am_M} {n s : Int} {f : nm_Rg} {b c : Int} {S : Int → Int} {D : Int → nm_T} (h : nm_CX M c S D) (h6 : S 2 ≤ 6) (F : nm_Fg n s f M M') (hf : nm_lo f = true) (e : ∀ k, 0 ≤ k → k < 6 → am_gt M' (b + 9) k = am_gt M (c + 9) k) : nm_CX M' b S D := by
  intro k k0 k1
  rw [e k k0 (by omega)]; exact nm_CT_fr (h k k0 k1) F hf
theorem nm_TX_cp {M M' : am_M} {n s : Int} {f : nm_Rg} {b c : Int} (h : nm_TX M c) (F : nm_Fg n s f M M') (e : ∀ k, 0 ≤ k → k < 6 → am_gt M' (b + 9) k = am_gt M (c + 9) k) : nm_TX M' b := by
  intro k k0 k1
  rw [e k k0 k1]
  rcases h k k0 k1 with x | ⟨x1, x2, x3⟩
  · exact .inl x
  · exact .inr ⟨x1, by have := F.1; omega, (congrArg Prod.fst (F.2.2.2.1 _ x2)).trans x3⟩
theorem nmp_39 {d : Nat} {k : Int} {X : nm_X} {M : am_M} {Q : List am_V → am_M → Prop} (hd : 4 ≤ d) (hC : nm_C M X) (hQ : nm_KC (sp_39 X k).1 [(0, (sp_39 X k).2)] M Q) : am_CL d 39 [(2, 0), (0, k)] M Q := by
  have hL := nm_C_L hC
  have hC0 := hC
  obtain ⟨c1, c2, c3, c4, c5, c6, c7, c8, c9, c10, c11, c12⟩ := hC
  have hA := c1
  obtain ⟨-, hS, hO, hX⟩ := c1
  have o2 := hO.2.2.1
  unfold sp_39 at hQ
  have R1 : (k < 0 ∨ 2 ≤ k) → 0 < d ∧ am_CL (d - 1) 43 [(2, 0), (0, (-1))] M (fun r M' => am_WP d am_c39 14 [(2, 0), (0, k)] (r ++ []) M' Q) := by
    intro h
    rw [if_pos h] at hQ
    exact ⟨by omega, nmp_ref (k := 39) (by decide) hC0 (fun M' L q => h_39_14 L q) hQ⟩
  refine h_39_0 hL ⟨fun h => R1 (.inl h), fun h => ⟨fun h2 => ?_, fun h2 => R1 (by omega)⟩⟩
  rw [if_neg (by omega)] at hQ
  have hk : k = 0 ∨ k = 1 := by omega
  rcases hk with rfl | rfl
  · have e15 : am_gt M 15 0 = 186 := hL.2.1 (15, 0, 186) (by decide +kernel)
    rw [e15]
    refine ⟨by decide, congrArg Prod.fst (hL.1 186 (by decide) (by decide)), by omega, nmc_114_186_1 (by omega) hL hS c3 c2 (fun M1 F1 S1 t1 W1 => ?_)⟩
    have hL1 := nm_Lay_fr hL F1 (by decide +kernel)
    have F2' : nm_Fr [(16, 0, 2)] M1 (am_st M1 16 0 1) := nm_Fr_st (nm_Fg_refl _ _) (by decide)
    have F2 : nm_Fr ((nm_Sg 186 ++ [(195, 0, 6)] ++ nm_Wg 196) ++ [(16, 0, 2)]) M (am_st M1 16 0 1) := nm_Fr_trans (nm_Fr_appl F1) (nm_Fr_appr F2')
    have C2 : nm_C (am_st M1 16 0 1) (ns_I X 0) := ⟨nm_CA_fr hA F2 (by decide +kernel) (by decide +kernel) (by decide +kernel) (by decide +kernel), nm_CW_fr c2 hL (by decide) F2 (by decide +kernel), nm_TX_fr c3 (by decide) hL F2 (by decide +kernel), nm_TX_fr (nm_TX_cp c3 F1 t1) (by decide) hL1 F2' (by decide +kernel), nm_TX_fr c5 (by decide) hL F2 (by decide +kernel), ⟨by show am_gt (am_st M1 16 0 1) 16 0 = nm_up (nx_K X) 0 1 0; rw [nm_st_eq, nm_up_eq], fun _ => (show nm_CI (am_st M1 16 0 1) 186 (if (0 : Int) = 0 then X.1 else X.2.1 0) by rw [if_pos rfl]; exact nm_CI_fr ⟨S1, nm_CX_cp hX o2.2 F1 (by decide +kernel) t1, W1⟩ hL1 (by decide) (by decide) F2' (by decide +kernel) (by decide +kernel) (by decide +kernel) (by decide +kernel))⟩, ⟨by show am_gt (am_st M1 16 0 1) 16 1 = nm_up (nx_K X) 0 1 1; rw [nm_st_nj (by decide), nm_up_ne (by decide), nm_gt_frn F1 hL (by decide) (by decide +kernel)]; exact c7.1, fun q => (show nm_CI (am_st M1 16 0 1) 200 (if (1 : Int) = 0 then X.1 else X.2.1 1) by rw [if_neg (by decide)]; exact nm_CI_fr (c7.2 (by have q1 : nm_up (nx_K X) 0 1 1 = 1 := q; rw [nm_up_ne (by decide)] at q1; exact q1)) hL (by decide) (by decide) F2 (by decide +kernel) (by decide +kernel) (by decide +kernel) (by decide +kernel))⟩, nm_CU_fr (.inl rfl) c8 hL F2 (by decide +kernel), nm_CUp_fr c9 hL (by decide) F2 (by decide +kernel), nm_CP_fr c10 hL F2 (by decide +kernel) (by decide +kernel), nm_CR_fr c11 hL F2 (by decide +kernel), c12.imp id (fun e => nm_CW_fr e hL (by decide) F2 (by decide +kernel))⟩
    exact h_39_28 hL1 ⟨by decide, by decide, by omega, nmx_44 C2 (fun M3 F3 C3 => h_39_40 (nm_C_L C3) (hQ M3 (nm_cFF F2 F3 (by decide +kernel) (by decide) (by decide)) C3))⟩
  · have e15 : am_gt M 15 1 = 200 := hL.2.1 (15, 1, 200) (by decide +kernel)
    rw [e15]
    refine ⟨by decide, congrArg Prod.fst (hL.1 200 (by decide) (by decide)), by omega, nmc_114_200_1 (by omega) hL hS c3 c2 (fun M1 F1 S1 t1 W1 => ?_)⟩
    have hL1 := nm_Lay_fr hL F1 (by decide +kernel)
    have F2' : nm_Fr [(16, 0, 2)] M1 (am_st M1 16 1 1) := nm_Fr_st (nm_Fg_refl _ _) (by decide)
    have F2 : nm_Fr ((nm_Sg 200 ++ [(209, 0, 6)] ++ nm_Wg 210) ++ [(16, 0, 2)]) M (am_st M1 16 1 1) := nm_Fr_trans (nm_Fr_appl F1) (nm_Fr_appr F2')
    have C2 : nm_C (am_st M1 16 1 1) (ns_I X 1) := ⟨nm_CA_fr hA F2 (by decide +kernel) (by decide +kernel) (by decide +kernel) (by decide +kernel), nm_CW_fr c2 hL (by decide) F2 (by decide +kernel), nm_TX_fr c3 (by decide) hL F2 (by decide +kernel), nm_TX_fr c4 (by decide) hL F2 (by decide +kernel), nm_TX_fr (nm_TX_cp c3 F1 t1) (by decide) hL1 F2' (by decide +kernel), ⟨by show am_gt (am_st M1 16 1 1) 16 0 = nm_up (nx_K X) 1 1 0; rw [nm_st_nj (by decide), nm_up_ne (by decide), nm_gt_frn F1 hL (by decide) (by decide +kernel)]; exact c6.1, fun q => (show nm_CI (am_st M1 16 1 1) 186 (if (0 : Int) = 1 then X.1 else X.2.1 0) by rw [if_neg (by decide)]; exact nm_CI_fr (c6.2 (by have q1 : nm_up (nx_K X) 1 1 0 = 1 := q; rw [nm_up_ne (by decide)] at q1; exact q1)) hL (by decide) (by decide) F2 (by decide +kernel) (by decide +kernel) (by decide +kernel) (by decide +kernel))⟩, ⟨by show am_gt (am_st M1 16 1 1) 16 1 = nm_up (nx_K X) 1 1 1; rw [nm_st_eq, nm_up_eq], fun _ => (show nm_CI (am_st M1 16 1 1) 200 (if (1 : Int) = 1 then X.1 else X.2.1 1) by rw [if_pos rfl]; exact nm_CI_fr ⟨S1, nm_CX_cp hX o2.2 F1 (by decide +kernel) t1, W1⟩ hL1 (by decide) (by decide) F2' (by decide +kernel) (by decide +kernel) (by decide +kernel) (by decide +kernel))⟩, nm_CU_fr (.inl rfl) c8 hL F2 (by decide +kernel), nm_CUp_fr c9 hL (by decide) F2 (by decide +kernel), nm_CP_fr c10 hL F2 (by decide +kernel) (by decide +kernel), nm_CR_fr c11 hL F2 (by decide +kernel), c12.imp id (fun e => nm_CW_fr e hL (by decide) F2 (by decide +kernel))⟩
    exact h_39_28 hL1 ⟨by decide, by decide, by omega, nmx_44 C2 (fun M3 F3 C3 => h_39_40 (nm_C_L C3) (hQ M3 (nm_cFF F2 F3 (by decide +kernel) (by decide) (by decide)) C3))⟩
theorem nmp_40 {d : Nat} {k : Int} {X : nm_X} {M : am_M} {Q : List am_V → am_M → Prop} (hd : 4 ≤ d) (hC : nm_C M X) (hok : nm_ok X) (hQ : nm_KC (sp_40 X k).1 [(0, (sp_40 X k).2)] M Q) : am_CL d 40 [(2, 0), (0, k)] M Q := by
  have hL := nm_C_L hC
  have hC0 := hC
  obtain ⟨c1, c2, c3, c4, c5, c6, c7, c8, c9, c10, c11, c12⟩ := hC
  unfold sp_40 at hQ
  have R1 : (k < 0 ∨ 2 ≤ k) → 0 < d ∧ am_CL (d - 1) 43 [(2, 0), (0, (-1))] M (fun r M' => am_WP d am_c40 14 [(2, 0), (0, k)] (r ++ []) M' Q) := by
    intro h
    rw [if_pos h] at hQ
    exact ⟨by omega, nmp_ref (k := 40) (by decide) hC0 (fun M' L q => h_40_14 L q) hQ⟩
  refine h_40_0 hL ⟨fun h => R1 (.inl h), fun h => ⟨fun h2 => ⟨by omega, ?_⟩, fun h2 => R1 (by omega)⟩⟩
  rw [if_neg (by omega)] at hQ
  have hk : k = 0 ∨ k = 1 := by omega
  rcases hk with rfl | rfl
  · have e15 : am_gt M 15 0 = 186 := hL.2.1 (15, 0, 186) (by decide +kernel)
    rw [e15, c6.1]
    refine ⟨fun hk => ⟨by omega, ?_⟩, fun hk => ?_⟩
    · rw [if_neg hk] at hQ
      obtain ⟨e1, og⟩ := (hok.2.1 0 (by decide) (by decide)).resolve_left hk
      have gI := c6.2 e1
      refine nmc_114_1_186 (by omega) hL gI.1 c4 gI.2.2 (fun M1 F1 S1 t1 W1 => ?_)
      have hL1 := nm_Lay_fr hL F1 (by decide +kernel)
      have F2' : nm_Fr [(34, 0, 1)] M1 (am_st M1 34 0 0) := nm_Fr_st (nm_Fg_refl _ _) (by decide)
      have F2 : nm_Fr ((nm_Sg 1 ++ [(10, 0, 6)] ++ nm_Wg 11) ++ [(34, 0, 1)]) M (am_st M1 34 0 0) := nm_Fr_trans (nm_Fr_appl F1) (nm_Fr_appr F2')
      have C2 : nm_C (am_st M1 34 0 0) (ns_U (nx_I X 0, X.2) []) := ⟨⟨nm_Lay_fr hL F2 (by decide +kernel), nm_CS_fr S1 hL1 (by decide) F2' (by decide +kernel), og.1, nm_CX_fr (nm_CX_cp gI.2.1 og.1.2.2.1.2 F1 (by decide +kernel) t1) (by decide) hL1 F2' (by decide +kernel) (by decide +kernel)⟩, nm_CW_fr W1 hL1 (by decide) F2' (by decide +kernel), nm_TX_fr (nm_TX_cp c4 F1 t1) (by decide) hL1 F2' (by decide +kernel), nm_TX_fr c4 (by decide) hL F2 (by decide +kernel), nm_TX_fr c5 (by decide) hL F2 (by decide +kernel), ⟨(nm_gt_frn F2 hL (by decide) (by decide +kernel)).trans c6.1, fun k => nm_CI_fr (c6.2 k) hL (by decide) (by decide) F2 (by decide +kernel) (by decide +kernel) (by decide +kernel) (by decide +kernel)⟩, ⟨(nm_gt_frn F2 hL (by decide) (by decide +kernel)).trans c7.1, fun k => nm_CI_fr (c7.2 k) hL (by decide) (by decide) F2 (by decide +kernel) (by decide +kernel) (by decide +kernel) (by decide +kernel)⟩, nm_CU_nil (nm_CUp_fr c8.1 hL (by decide) F2 (by decide +kernel)) nm_st_eq, nm_CUp_fr c9 hL (by decide) F2 (by decide +kernel), nm_CP_fr c10 hL F2 (by decide +kernel) (by decide +kernel), nm_CR_fr c11 hL F2 (by decide +kernel), c12.imp id (fun e => nm_CW_fr e hL (by decide) F2 (by decide +kernel))⟩
      exact h_40_44 hL1 ⟨by omega, nmx_44 C2 (fun M3 F3 C3 => h_40_57 (nm_C_L C3) (hQ M3 (nm_cFF F2 F3 (by decide +kernel) (by decide) (by decide)) C3))⟩
    · rw [if_pos (by omega)] at hQ
      exact ⟨by omega, nmp_ref (k := 40) (by decide) hC0 (fun M' L q => h_40_30 L q) hQ⟩
  · have e15 : am_gt M 15 1 = 200 := hL.2.1 (15, 1, 200) (by decide +kernel)
    rw [e15, c7.1]
    refine ⟨fun hk => ⟨by omega, ?_⟩, fun hk => ?_⟩
    · rw [if_neg hk] at hQ
      obtain ⟨e1, og⟩ := (hok.2.1 1 (by decide) (by decide)).resolve_left hk
      have gI := c7.2 e1
      refine nmc_114_1_200 (by omega) hL gI.1 c5 gI.2.2 (fun M1 F1 S1 t1 W1 => ?_)
      have hL1 := nm_Lay_fr hL F1 (by decide +kernel)
      have F2' : nm_Fr [(34, 0, 1)] M1 (am_st M1 34 0 0) := nm_Fr_st (nm_Fg_refl _ _) (by decide)
      have F2 : nm_Fr ((nm_Sg 1 ++ [(10, 0, 6)] ++ nm_Wg 11) ++ [(34, 0, 1)]) M (am_st M1 34 0 0) := nm_Fr_trans (nm_Fr_appl F1) (nm_Fr_appr F2')
      have C2 : nm_C (am_st M1 34 0 0) (ns_U (nx_I X 1, X.2) []) := ⟨⟨nm_Lay_fr hL F2 (by decide +kernel), nm_CS_fr S1 hL1 (by decide) F2' (by decide +kernel), og.1, nm_CX_fr (nm_CX_cp gI.2.1 og.1.2.2.1.2 F1 (by decide +kernel) t1) (by decide) hL1 F2' (by decide +kernel) (by decide +kernel)⟩, nm_CW_fr W1 hL1 (by decide) F2' (by decide +kernel), nm_TX_fr (nm_TX_cp c5 F1 t1) (by decide) hL1 F2' (by decide +kernel), nm_TX_fr c4 (by decide) hL F2 (by decide +kernel), nm_TX_fr c5 (by decide) hL F2 (by decide +kernel), ⟨(nm_gt_frn F2 hL (by decide) (by decide +kernel)).trans c6.1, fun k => nm_CI_fr (c6.2 k) hL (by decide) (by decide) F2 (by decide +kernel) (by decide +kernel) (by decide +kernel) (by decide +kernel)⟩, ⟨(nm_gt_frn F2 hL (by decide) (by decide +kernel)).trans c7.1, fun k => nm_CI_fr (c7.2 k) hL (by decide) (by decide) F2 (by decide +kernel) (by decide +kernel) (by decide +kernel) (by decide +kernel)⟩, nm_CU_nil (nm_CUp_fr c8.1 hL (by decide) F2 (by decide +kernel)) nm_st_eq, nm_CUp_fr c9 hL (by decide) F2 (by decide +kernel), nm_CP_fr c10 hL F2 (by decide +kernel) (by decide +kernel), nm_CR_fr c11 hL F2 (by decide +kernel), c12.imp id (fun e => nm_CW_fr e hL (by decide) F2 (by decide +kernel))⟩
      exact h_40_44 hL1 ⟨by omega, nmx_44 C2 (fun M3 F3 C3 => h_40_57 (nm_C_L C3) (hQ M3 (nm_cFF F2 F3 (by decide +kernel) (by decide) (by decide)) C3))⟩
    · rw [if_pos (by omega)] at hQ
      exact ⟨by omega, nmp_ref (k := 40) (by decide) hC0 (fun M' L q => h_40_30 L q) hQ⟩
/-! THE REFERENCE: hanging, nights -/
theorem nm_php : ∀ (n : Nat) (l : List Int), l.Nodup → (∀ m ∈ l, 0 ≤ m ∧ m < (n : Int)) → l.length ≤ n
  | 0, l, _, h => by
    cases l with
    | nil => simp
    | cons a t => have := h a List.mem_cons_self; omega
  | n + 1, l, hn, h => by
    by_cases hm : (n : Int) ∈ l
    · have h1 := nm_php n (l.erase (n : Int)) (hn.erase _) (fun m hm' => by
        have h2 := (List.Nodup.mem_erase_iff hn).mp hm'
        have h3 := h m h2.2
        have h4 := h2.1
        omega)
      rw [List.length_erase_of_mem hm] at h1
      omega
    · have := nm_php n l hn (fun m hm' => by
        have h3 := h m hm'
        have h4 : m ≠ (n : Int) := fun e => hm (e ▸ hm')
        omega)
      omega
theorem nm_full {n m : Int} {W : nm_W} (h : nm_okW n W) (hn : n ≤ 6) (m0 : 0 ≤ m) (m1 : m < n) (hl : m ∉ W.2.1) : W.2.1.length < 6 := by
  have := nm_php 6 (m :: W.2.1) (List.nodup_cons.mpr ⟨hl, h.2.2.1⟩) (fun k hk => by
    rcases List.mem_cons.mp hk with e | e
    · omega
    · have := h.2.2.2.1 k e; omega)
  rw [List.length_cons] at this
  omega
abbrev nm_wgM : nm_Rg := [(216, 4, 5), (216, 8, 29)]
theorem nm_MA_W {n s : Int} {f : nm_Rg} {M M' : am_M} {S : Int → Int} {W W' : nm_W} {D : Int → nm_T} (h : nm_MA M S W D) (F : nm_Fg n s f M M') (h1 : nm_lk f = true) (h2 : nm_dj f [(216, 0, 4), (216, 5, 8), (216, 29, 5510)] = true) (h3 : nm_dj f [(214, 20, 21)] = true) (hW : nm_MW M' W') : nm_MA M' S W' D := by
  obtain ⟨a1, a2, a3, a4, a5, a6⟩ := h
  have o2 := a4.2.2.1
  have kp : ∀ i, (0 ≤ i ∧ i < 4) ∨ (5 ≤ i ∧ i < 8) ∨ (29 ≤ i ∧ i < 5510) → am_gt M' 216 i = am_gt M 216 i := by
    intro i hi
    refine nm_gt_frd F a1 (by decide) h2 ?_
    rcases hi with h | h | h
    · exact nm_in_c (lo := 0) (hi := 4) (by decide) h.1 h.2
    · exact nm_in_c (lo := 5) (hi := 8) (by decide) h.1 h.2
    · exact nm_in_c (lo := 29) (hi := 5510) (by decide) h.1 h.2
  refine ⟨nm_Lay_fr a1 F h1, fun i hi => by rw [kp i (by unfold nm_si at hi; omega)]; exact a2 i hi, hW, a4, fun k k0 k1 => nm_MT_kp2 (a5 k k0 k1) (by omega) (by omega) (fun i x y => kp i (by omega)), by rw [nm_gt_frd (g := [(214, 20, 21)]) F a1 (by decide) h3 (by decide)]; exact a6⟩
theorem nm_MW_ext {M : am_M} {W W' : nm_W} (h : nm_MW M W) (e0 : W'.1 = W.1) (e1 : W'.2.1 = W.2.1) (e2 : ∀ m, 0 ≤ m → m < 6 → W'.2.2.1 m = W.2.2.1 m) (e3 : ∀ p, 0 ≤ p → p < 8 → W'.2.2.2 p = W.2.2.2 p) : nm_MW M W' := by
  obtain ⟨h1, h2, h3, h4, h5, h6⟩ := h
  exact ⟨by rw [e0]; exact h1, by rw [e1]; exact h2, by rw [e1]; exact h3, by rw [e1]; exact h4, fun m a b => by rw [e2 m a b]; exact h5 m a b, fun p a b => by rw [e3 p a b]; exact h6 p a b⟩
theorem nm_hangR_no {S : Int → Int} {W : nm_W} {T : nm_T} {m : Int} (m0 : 0 ≤ m) (m1 : m < S 0) (h : W.2.2.1 m = 0 ∨ nm_ix W.2.1 m ≠ -1 ∨ nm_bar S W T m (W.2.1.length : Int) = true) : nm_hangR S W T m = -3 := by
  unfold nm_hangR; rw [if_neg (by omega), if_pos (.inr h)]
theorem nm_hangR_yes {S : Int → Int} {W : nm_W} {T : nm_T} {m : Int} (m0 : 0 ≤ m) (m1 : m < S 0) (hl : W.2.1.length < 6) (h : ¬ (W.2.2.1 m = 0 ∨ nm_ix W.2.1 m ≠ -1 ∨ nm_bar S W T m (W.2.1.length : Int) = true)) : nm_hangR S W T m = (W.2.1.length : Int) := by
  unfold nm_hangR; rw [if_neg (by omega), if_neg (fun c => c.elim (fun c => by omega) h)]
theorem nm_ix_m1 {l : List Int} {m : Int} (h : nm_ix l m = -1) : m ∉ l := by
  rcases nm_ix_cases l m with ⟨-, e⟩ | ⟨k, -, -, e⟩
  · exact e
  · omega
theorem nmm_212 {d : Nat} {m : Int} {S : Int → Int} {W : nm_W} {D : Int → nm_T} {M : am_M} {Q : List am_V → am_M → Prop} (hd : 7 ≤ d) (hA : nm_MA M S W D) (oW : nm_okW (S 0) W) (m0 : 0 ≤ m) (m1 : m < S 0) (h1 : ∀ M', nm_Fr nm_tg M M' → nm_hangR S W (nm_lwf S D) m = (W.2.1.length : Int) → m ∉ W.2.1 → W.2.1.length < 6 → Q [(0, 1)] M') (h0 : ∀ M', nm_Fr nm_tg M M' → nm_hangR S W (nm_lwf S D) m = -3 → Q [(0, 0)] M') : am_CL d 212 [(2, 214), (0, m)] M Q := by
  have hA0 := hA
  obtain ⟨hL, hS, hW, hO, hX, a6⟩ := hA
  have o0 := hO.1
  have bs := oW.2.2.2.2.1 m m0 (by omega)
  refine h_212_0 hL ⟨by omega, nm_m157 hL hW oW.2.2.1 (h_212_5 hL ⟨fun h => h0 M (nm_Fg_refl _ _) (nm_hangR_no m0 m1 (.inr (.inl h))), fun h => ?_⟩)⟩
  have hx : nm_ix W.2.1 m = -1 := by omega
  have hl := nm_full oW o0.2 m0 m1 (nm_ix_m1 hx)
  rw [am_w_id (x := 15 + m) (by omega) (by omega), hW.2.2.2.2.1 m m0 (by omega), hW.2.1]
  refine ⟨by omega, by omega, fun hz => h0 M (nm_Fg_refl _ _) (nm_hangR_no m0 m1 (.inl (by omega))), fun hz => ⟨by omega, nm_m211 (by omega) hA0 oW m0 (by omega) (by omega) (fun M1 F1 => ?_)⟩⟩
  have hL1 := nm_Lay_fr hL F1 (by decide +kernel)
  cases hb : nm_bar S W (nm_lwf S D) m (W.2.1.length : Int)
  · refine h_212_33 hL1 ⟨fun h => absurd rfl h, fun _ => h1 M1 F1 (nm_hangR_yes m0 m1 hl ?_) (nm_ix_m1 hx) hl⟩
    rintro (c | c | c)
    · omega
    · exact c hx
    · rw [hb] at c; cases c
  · exact h_212_33 hL1 ⟨fun _ => h0 M1 F1 (nm_hangR_no m0 m1 (.inr (.inr hb))), fun h => absurd (by decide) h⟩
theorem nmm_213 {d : Nat} {m : Int} {W : nm_W} {M : am_M} {Q : List am_V → am_M → Prop} (hL : nm_Lay M) (hW : nm_MW M W) (hl : W.2.1.length < 6) (hQ : ∀ M', nm_Fr nm_wgM M M' → nm_MW M' (nm_hangW W m) → Q [] M') : am_CL d 213 [(2, 214), (0, m)] M Q := by
  obtain ⟨h1, h2, h3, h4, h5, h6⟩ := hW
  refine h_213_0 hL ?_
  rw [h2, am_w_id (x := 9 + _) (by omega) (by omega), nm_st_nj (by omega), h2, am_w_id (x := _ + 1) (by omega) (by omega)]
  refine ⟨by omega, by omega, hQ _ (nm_Fr_st (nm_Fr_st (nm_Fg_refl _ _) (nm_in_c (lo := 8) (hi := 29) (by decide) (by omega) (by omega))) (by decide)) ⟨?_, ?_, ?_, fun p hp => ?_, fun k a b => ?_, fun p a b => ?_⟩⟩
  · rw [nm_st_nj (by decide), nm_st_nj (by omega)]; exact h1
  · rw [nm_st_eq]; show _ = ((W.2.1 ++ [m]).length : Int); rw [List.length_append, List.length_singleton]; omega
  · show (W.2.1 ++ [m]).length ≤ 6; rw [List.length_append, List.length_singleton]; omega
  · have hp' : p < W.2.1.length + 1 := by have : p < (W.2.1 ++ [m]).length := hp; rw [List.length_append, List.length_singleton] at this; exact this
    show _ = (W.2.1 ++ [m]).getD p 0
    rw [nm_st_nj (by omega), nm_gt_st]
    by_cases hpl : p = W.2.1.length
    · rw [if_pos ⟨rfl, by omega⟩, hpl, nm_getD_end]
    · rw [if_neg (by omega), h4 p (by omega), nm_getD_app (by omega)]
  · rw [nm_st_nj (by omega), nm_st_nj (by omega)]; exact h5 k a b
  · rw [nm_st_nj (by omega), nm_st_nj (by omega)]; exact h6 p a b
theorem nmm_216 {d : Nat} {k : Nat} {W : nm_W} {M : am_M} {Q : List am_V → am_M → Prop} (hL : nm_Lay M) (hW : nm_MW M W) (hk : k < W.2.1.length) (hQ : ∀ M', nm_Fr nm_wgM M M' → nm_MW M' (nm_downW W k) → Q [] M') : am_CL d 216 [(2, 214), (0, (k : Int))] M Q := by
  obtain ⟨h1, h2, h3, h4, h5, h6⟩ := hW
  refine h_216_0 hL ?_
  have key : ∀ j, j ≤ W.2.1.length - 1 → ∀ M1, k ≤ j → nm_Fr nm_wgM M M1 → (∀ i, i < 9 ∨ 15 ≤ i → am_gt M1 216 i = am_gt M 216 i) → (∀ p : Nat, p < W.2.1.length → am_gt M1 216 (9 + (p : Int)) = if k ≤ p ∧ p < j then W.2.1.getD (p + 1) 0 else W.2.1.getD p 0) → am_WP d am_c216 2 [(2, 214), (0, (k : Int)), (0, (j : Int))] [] M1 Q := by
    refine nm_dn ?_
    intro j hj ih M1 hkj F a0 a2
    have hL1 := nm_Lay_fr hL F (by decide +kernel)
    have e8 : am_gt M1 216 8 = (W.2.1.length : Int) := by rw [a0 8 (by omega)]; exact h2
    have w8 : am_w ((W.2.1.length : Int) - 1) = (W.2.1.length : Int) - 1 := am_w_id (by omega) (by omega)
    refine h_216_2 hL1 ?_
    rw [e8, w8]
    refine ⟨fun h => ?_, fun h => ?_⟩
    · rw [am_w_id (x := 9 + _) (by omega) (by omega)]
      have hlen : (nm_downW W k).2.1.length = W.2.1.length - 1 := by
        show (W.2.1.eraseIdx k).length = _
        rw [List.length_eraseIdx, if_pos hk]
      refine ⟨by omega, by omega, hQ _ (nm_Fr_st (nm_Fr_st F (by decide)) (nm_in_c (lo := 8) (hi := 29) (by decide) (by omega) (by omega))) ⟨?_, ?_, ?_, fun p hp => ?_, fun q b c => ?_, fun q b c => ?_⟩⟩
      · rw [nm_st_nj (by omega), nm_st_nj (by decide), a0 4 (by omega)]; exact h1
      · rw [nm_st_nj (by omega), nm_st_eq, hlen]; omega
      · omega
      · rw [nm_st_nj (by omega), nm_st_nj (by omega), a2 p (by omega)]
        show _ = (W.2.1.eraseIdx k).getD p 0
        rw [nm_erase]
        by_cases hpk : p < k
        · rw [if_neg (by omega), if_pos hpk]
        · rw [if_pos (by omega), if_neg hpk]
      · rw [nm_st_nj (by omega), nm_st_nj (by omega), a0 _ (by omega)]; exact h5 q b c
      · rw [nm_st_nj (by omega), nm_st_nj (by omega), a0 _ (by omega)]; exact h6 q b c
    · rw [am_w_id (x := 9 + (j : Int)) (by omega) (by omega), am_w_id (x := 9 + (j : Int) + 1) (by omega) (by omega), nm_wk (by omega)]
      have ej : am_gt M1 216 (9 + (j : Int) + 1) = W.2.1.getD (j + 1) 0 := by
        have := a2 (j + 1) (by omega)
        rw [if_neg (by omega), show (9 + ((j + 1 : Nat) : Int)) = 9 + (j : Int) + 1 by omega] at this
        exact this
      rw [ej]
      refine ⟨by omega, by omega, by omega, by omega, ih (by omega) _ (by omega) (nm_Fr_st F (nm_in_c (lo := 8) (hi := 29) (by decide) (by omega) (by omega))) (fun i hi => by rw [nm_st_nj (by omega)]; exact a0 i hi) (fun p hp => ?_)⟩
      rw [nm_gt_st]
      by_cases hpj : p = j
      · subst hpj; rw [if_pos ⟨rfl, rfl⟩, if_pos (by omega)]
      · rw [if_neg (by omega), a2 p hp]
        by_cases hc : k ≤ p ∧ p < j
        · rw [if_pos hc, if_pos (by omega)]
        · rw [if_neg hc, if_neg (by omega)]
  exact key k (by omega) M (Nat.le_refl _) (nm_Fg_refl _ _) (fun _ _ => rfl) (fun p hp => by rw [if_neg (by omega)]; exact h4 p hp)
abbrev nm_lgM : nm_Rg := nm_tg ++ [(235, 0, 8)]
theorem nmm_221 {d : Nat} {S : Int → Int} {W : nm_W} {D : Int → nm_T} {M : am_M} {Q : List am_V → am_M → Prop} (hd : 8 ≤ d) (hA : nm_MA M S W D) (oW : nm_okW (S 0) W) (hQ : ∀ M', nm_Fr nm_lgM M M' → (∀ p, 0 ≤ p → p < 8 → am_gt M' 235 p = ((nm_all S W (nm_lwf S D) (S 7)).count p : Int)) → Q [(0, ((nm_all S W (nm_lwf S D) (S 7)).length : Int))] M') : am_CL d 221 [(2, 214)] M Q := by
  have hA0 := hA
  obtain ⟨hL, hS, hW, hO, hX, a6⟩ := hA
  have o0 := hO.1
  have o7 := hO.2.2.2.2.2.2.1
  have l6 := hW.2.2.1
  obtain ⟨n1, n2, nd, nm, ns, nst⟩ := oW
  have lay : ∀ {M1}, nm_Fr nm_lgM M M1 → nm_MA M1 S W D := fun F => nm_MA_fr hA0 F (by decide +kernel) (by decide +kernel) (by decide +kernel)
  have outer : ∀ p, p ≤ W.2.1.length → ∀ (M1 : am_M) (l3 : am_V), nm_Fr nm_lgM M M1 → (∀ q, 0 ≤ q → q < 8 → am_gt M1 235 q = ((nm_ps S W (nm_lwf S D) (S 7) p).count q : Int)) → am_WP d am_c221 25 [(2, 214), (0, ((nm_ps S W (nm_lwf S D) (S 7) p).length : Int)), (0, (p : Int)), l3] [] M1 Q := by
    refine nm_dn ?_
    intro p hp ih M1 l3 F1 a1
    have hA1 := lay F1
    have e8 : am_gt M1 216 8 = (W.2.1.length : Int) := hA1.2.2.1.2.1
    refine h_221_25 hA1.1 ?_
    rw [e8]
    refine ⟨fun h => ?_, fun h => ?_⟩
    · have hpe : p = W.2.1.length := by omega
      subst hpe
      exact hQ M1 F1 a1
    · have hpl : p < W.2.1.length := by omega
      have hmm := nm _ (nm_getD_mem hpl)
      rw [nm_wk (by omega)]
      have hpl8 := nm_ps_len (S := S) (W := W) (T := nm_lwf S D) o7.2 p
      have inner : ∀ j, j ≤ (S 7 - (p : Int)).toNat → ∀ (M2 : am_M), nm_Fr nm_lgM M M2 → (∀ q, 0 ≤ q → q < 8 → am_gt M2 235 q = ((nm_ps S W (nm_lwf S D) (S 7) p ++ nm_hs (fun h => nm_mk S W (nm_lwf S D) (W.2.1.getD p 0) (p : Int) h) ((p : Int) + 1) j).count q : Int)) → am_WP d am_c221 40 [(2, 214), (0, ((nm_ps S W (nm_lwf S D) (S 7) p ++ nm_hs (fun h => nm_mk S W (nm_lwf S D) (W.2.1.getD p 0) (p : Int) h) ((p : Int) + 1) j).length : Int)), (0, (p : Int)), (0, ((p + 1 + j : Nat) : Int))] [] M2 Q := by
        refine nm_dn ?_
        intro j hj ihj M2 F2 a2
        have hA2 := lay F2
        have e7 : am_gt M2 216 7 = S 7 := hA2.2.1 7 (by unfold nm_si; omega)
        refine h_221_40 hA2.1 ?_
        rw [e7]
        refine ⟨fun h => ?_, fun h => ?_⟩
        · have hje : j = (S 7 - (p : Int)).toNat := by omega
          rw [nm_wk (by omega)]
          have := ih (by omega) M2 (0, ((p + 1 + j : Nat) : Int)) F2
          rw [nm_ps_succ, ← hje] at this
          exact this a2
        · rw [am_w_id (x := 9 + (p : Int)) (by omega) (by omega), hA2.2.2.1.2.2.2.1 p hpl]
          refine ⟨by omega, by omega, by omega, nm_m208 (by omega) hA2 ⟨n1, n2, nd, nm, ns, nst⟩ hmm.1 hmm.2 (by omega) (by omega) (fun M3 F3 => ?_)⟩
          have F13 : nm_Fr nm_lgM M M3 := nm_Fr_trans F2 (nm_Fr_appl F3)
          have hA3 := lay F13
          rw [if_pos (by omega)]
          have hmk : nm_mk S W (nm_lwf S D) (W.2.1.getD p 0) (p : Int) ((p + 1 + j : Nat) : Int) = nm_mk S W (nm_lwf S D) (W.2.1.getD p 0) (p : Int) ((p : Int) + 1 + (j : Int)) := by
            rw [show ((p + 1 + j : Nat) : Int) = (p : Int) + 1 + (j : Int) by omega]
          rw [hmk]
          have hin : 0 ≤ nm_mk S W (nm_lwf S D) (W.2.1.getD p 0) (p : Int) ((p : Int) + 1 + (j : Int)) ∧ nm_mk S W (nm_lwf S D) (W.2.1.getD p 0) (p : Int) ((p : Int) + 1 + (j : Int)) ≤ 7 := nm_made_in
          have hl1 : (nm_ps S W (nm_lwf S D) (S 7) p ++ nm_hs (fun h => nm_mk S W (nm_lwf S D) (W.2.1.getD p 0) (p : Int) h) ((p : Int) + 1) (j + 1)).length = (nm_ps S W (nm_lwf S D) (S 7) p ++ nm_hs (fun h => nm_mk S W (nm_lwf S D) (W.2.1.getD p 0) (p : Int) h) ((p : Int) + 1) j).length + 1 := by
            rw [List.length_append, List.length_append, nm_hs_len, nm_hs_len]; omega
          have hl2 : (nm_ps S W (nm_lwf S D) (S 7) p ++ nm_hs (fun h => nm_mk S W (nm_lwf S D) (W.2.1.getD p 0) (p : Int) h) ((p : Int) + 1) j).length ≤ 100 := by
            rw [List.length_append, nm_hs_len]; omega
          have e235 : ∀ q, am_gt M3 235 q = am_gt M2 235 q := fun q => nm_gt_frn F3 hA2.1 (by decide) (by decide)
          have hcl : ∀ q, ((nm_ps S W (nm_lwf S D) (S 7) p ++ nm_hs (fun h => nm_mk S W (nm_lwf S D) (W.2.1.getD p 0) (p : Int) h) ((p : Int) + 1) j).count q : Int) ≤ 100 := fun q => by have := List.count_le_length (a := q) (l := nm_ps S W (nm_lwf S D) (S 7) p ++ nm_hs (fun h => nm_mk S W (nm_lwf S D) (W.2.1.getD p 0) (p : Int) h) ((p : Int) + 1) j); omega
          refine h_221_70 hA3.1 ⟨hin.1, by omega, ?_⟩
          rw [nm_wk (by omega), nm_wk (by omega), ← hl1, e235, a2 _ hin.1 (by omega), am_w_id (x := _ + 1) (by omega) (by have := hcl (nm_mk S W (nm_lwf S D) (W.2.1.getD p 0) (p : Int) ((p : Int) + 1 + (j : Int))); omega)]
          refine ihj (by omega) _ (nm_Fr_st F13 (nm_in_c (a := 235) (lo := 0) (hi := 8) (by decide +kernel) hin.1 (by omega))) (fun q x y => ?_)
          rw [nm_hs_succ, ← List.append_assoc, nm_count1, nm_gt_st]
          by_cases hq : q = nm_mk S W (nm_lwf S D) (W.2.1.getD p 0) (p : Int) ((p : Int) + 1 + (j : Int))
          · rw [if_pos ⟨rfl, hq⟩, if_pos hq.symm, ← hq]
          · rw [if_neg (fun c => hq c.2), if_neg (fun c => hq c.symm), e235, a2 q x y]; omega
      have h0 := inner 0 (Nat.zero_le _) M1 F1
      rw [show nm_hs (fun h => nm_mk S W (nm_lwf S D) (W.2.1.getD p 0) (p : Int) h) ((p : Int) + 1) 0 = [] from rfl, List.append_nil] at h0
      exact h0 a1
  refine h_221_0 hL ?_
  have zero : ∀ k : Nat, k ≤ 8 → ∀ M1, nm_Fr nm_lgM M M1 → (∀ q, 0 ≤ q → q < (k : Int) → am_gt M1 235 q = 0) → am_WP d am_c221 4 [(2, 214), (0, 0), (0, (k : Int)), (9, 0)] [] M1 Q := by
    refine nm_dn ?_
    intro k hk ih M1 F1 a1
    refine h_221_4 (lay F1).1 ⟨fun h => ?_, fun h => ⟨by omega, by omega, ?_⟩⟩
    · exact outer 0 (Nat.zero_le _) M1 _ F1 (fun q x y => by rw [a1 q x (by omega)]; rfl)
    · rw [nm_wk (by omega)]
      refine ih (by omega) _ (nm_Fr_st F1 (nm_in_c (a := 235) (lo := 0) (hi := 8) (by decide +kernel) (by omega) (by omega))) (fun q x y => ?_)
      rw [nm_gt_st]
      by_cases hq : q = (k : Int)
      · rw [if_pos ⟨rfl, hq⟩]
      · rw [if_neg (fun c => hq c.2)]; exact a1 q x (by omega)
  exact zero 0 (Nat.zero_le _) M (nm_Fg_refl _ _) (fun q x y => absurd y (by omega))
