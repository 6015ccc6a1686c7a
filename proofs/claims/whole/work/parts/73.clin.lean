/-! LINES, the class -/
def nm_PC (M : am_M) (N n H : Int) (cn : Int → Int → Bool) (mk : Int → Int → Int → Int) (j : Int) : Prop := ∀ m p, 0 ≤ m → m < N → 0 ≤ p → p < n → 6 * m + p < j → am_gt M 23 (6 * m + p) = (if cn m p then 1 else 0) ∧ (cn m p = true → ∀ h, p < h → h ≤ H → am_gt M 22 (48 * m + 8 * p + h - 1) = mk m p h)
/-- the tables of the class -/
def nm_TC (M : am_M) (N n H : Int) (cn : Int → Int → Bool) (mk : Int → Int → Int → Int) : Prop := ∀ m p, 0 ≤ m → m < N → 0 ≤ p → p < n → am_gt M 23 (6 * m + p) = (if cn m p then 1 else 0) ∧ (cn m p = true → ∀ h, p < h → h ≤ H → am_gt M 22 (48 * m + 8 * p + h - 1) = mk m p h)
abbrev nm_loC : nm_Rg := nm_Ag ++ [(22, 0, 288), (23, 0, 36)]
theorem nmc_81 {d n : Nat} {H : Int} {X : nm_X} {M : am_M} {Q : List am_V → am_M → Prop} (hd : 8 ≤ d) (hC : nm_C M X) (hok : nm_ok X) (n6 : n ≤ 6) (H0 : 0 ≤ H) (H8 : H ≤ 8) (hQ : ∀ M', nm_Fr nm_loC M M' → nm_TC M' (nx_S X 0) (n : Int) H (nm_cn X) (nm_mkx X) → Q [] M') : am_CL d 81 [(2, 20), (0, (n : Int)), (0, H)] M Q := by
  have o0 := hC.1.2.2.1.1
  have oW : nm_okW (nx_S X 0) (nx_W X) := hok.1.2.2.1
  have lay : ∀ {M1}, nm_Fr nm_loC M M1 → nm_C M1 X := fun F => nm_C_fr hC F (by decide +kernel)
  refine h_81_0 (nm_C_L hC) ?_
  have key1 : ∀ m : Nat, m ≤ (nx_S X 0).toNat → ∀ M1 l4 l5, nm_Fr nm_loC M M1 → nm_PC M1 (nx_S X 0) (n : Int) H (nm_cn X) (nm_mkx X) (6 * (m : Int)) → am_WP d am_c81 2 [(2, 20), (0, (n : Int)), (0, H), (0, (m : Int)), l4, l5] [] M1 Q := by
    refine nm_dn ?_
    intro m hm ih1 M1 l4 l5 F1 a1
    have C1 := lay F1
    refine h_81_2 (nm_C_L C1) ?_
    rw [nm_s0 C1.1.2.1]
    refine ⟨fun h => hQ M1 F1 (fun m' p' a b c e => a1 m' p' a b c e (by omega)), fun h => ?_⟩
    have key2 : ∀ p : Nat, p ≤ n → ∀ M2 l5, nm_Fr nm_loC M M2 → nm_PC M2 (nx_S X 0) (n : Int) H (nm_cn X) (nm_mkx X) (6 * (m : Int) + (p : Int)) → am_WP d am_c81 16 [(2, 20), (0, (n : Int)), (0, H), (0, (m : Int)), (0, (p : Int)), l5] [] M2 Q := by
      refine nm_dn ?_
      intro p hp ih2 M2 l5 F2 a2
      have C2 := lay F2
      have hL2 := nm_C_L C2
      have non : p < n → nm_cn X (m : Int) (p : Int) = false → ∀ M3, nm_Fr nm_Ag M2 M3 → am_WP d am_c81 91 [(2, 20), (0, (n : Int)), (0, H), (0, (m : Int)), (0, (p : Int)), (0, 0)] [] (am_st M3 23 (6 * (m : Int) + (p : Int)) 0) Q := by
        intro hpn hcn M3 F3
        have F03 : nm_Fr nm_loC M (am_st M3 23 (6 * (m : Int) + (p : Int)) 0) := nm_Fr_st (nm_Fr_trans F2 (nm_Fr_appl F3)) (nm_in_c (a := 23) (lo := 0) (hi := 36) (by decide +kernel) (by omega) (by omega))
        refine h_81_91 (nm_C_L (lay F03)) ?_
        rw [nm_wk (by omega)]
        refine ih2 hpn _ _ F03 (fun m' p' a b c e f => ?_)
        by_cases g : 6 * m' + p' = 6 * (m : Int) + (p : Int)
        · have e1 : m' = (m : Int) := by omega
          have e2 : p' = (p : Int) := by omega
          subst e1; subst e2
          rw [nm_st_eq, hcn]
          exact ⟨rfl, fun c => absurd c (by decide)⟩
        · rw [nm_st_nj g, nm_gt_frn F3 hL2 (by decide) (by decide)]
          refine ⟨(a2 m' p' a b c e (by omega)).1, fun x h' y z => ?_⟩
          rw [nm_st_ne (by decide), nm_gt_frn F3 hL2 (by decide) (by decide)]
          exact (a2 m' p' a b c e (by omega)).2 x h' y z
      refine h_81_16 hL2 ⟨fun h' => ?_, fun h' => ⟨by omega, by omega, ?_⟩⟩
      · rw [nm_wk (by omega)]
        exact ih1 (by omega) M2 _ _ F2 (fun m' p' a b c e f => a2 m' p' a b c e (by omega))
      · rw [am_w_id (x := (m : Int) * 6) (by omega) (by omega), am_w_id (x := (m : Int) * 6 + (p : Int)) (by omega) (by omega), show (m : Int) * 6 + (p : Int) = 6 * (m : Int) + (p : Int) by omega, show am_gt M2 13 (m : Int) = _ from C2.2.1.2.2.2.2.1 (m : Int) (by omega) (by omega)]
        refine ⟨fun hs => ⟨by omega, by omega, fun _ => ?_, fun c => absurd rfl c⟩, fun hs => ⟨by omega, nmc_61 (by omega) C2.1 (by decide) C2.2.1 oW (by omega) (by omega) (by omega) (fun M3 F3 => ?_)⟩⟩
        · refine non (by omega) ?_ M2 (nm_Fg_refl _ _)
          unfold nm_cn; rw [decide_eq_false (by omega), Bool.false_and]
        · have hcn : nm_cn X (m : Int) (p : Int) = !nm_bar (nx_S X) (nx_W X) (nm_lwf (nx_S X) (nx_D X)) (m : Int) (p : Int) := by
            unfold nm_cn; rw [decide_eq_true (by omega), Bool.true_and]
          have F03 : nm_Fr nm_loC M M3 := nm_Fr_trans F2 (nm_Fr_appl F3)
          refine h_81_54 (nm_C_L (lay F03)) ?_
          rw [am_w_id (x := (m : Int) * 6) (by omega) (by omega), am_w_id (x := (m : Int) * 6 + (p : Int)) (by omega) (by omega), show (m : Int) * 6 + (p : Int) = 6 * (m : Int) + (p : Int) by omega]
          cases hb : nm_bar (nx_S X) (nx_W X) (nm_lwf (nx_S X) (nx_D X)) (m : Int) (p : Int)
          · refine ⟨fun c => absurd rfl c, fun _ => ⟨by omega, by omega, fun c => absurd c (by decide), fun _ => ⟨by omega, ?_⟩⟩⟩
            have F04 : nm_Fr nm_loC M (am_st M3 23 (6 * (m : Int) + (p : Int)) 1) := nm_Fr_st F03 (nm_in_c (a := 23) (lo := 0) (hi := 36) (by decide +kernel) (by omega) (by omega))
            refine nmc_82 (by omega) (lay F04) hok (by omega) (by omega) (by omega) (by omega) H0 H8 (fun M5 F5 a5 b5 => ?_)
            have F05 : nm_Fr nm_loC M M5 := nm_Fr_trans F04 (nm_Fr_sub F5 (by decide +kernel))
            refine h_81_91 (nm_C_L (lay F05)) ?_
            rw [nm_wk (by omega)]
            refine ih2 (by omega) _ _ F05 (fun m' p' a b c e f => ?_)
            rw [nm_gt_frn F5 (nm_C_L (lay F04)) (by decide) (by decide)]
            by_cases g : 6 * m' + p' = 6 * (m : Int) + (p : Int)
            · have e1 : m' = (m : Int) := by omega
              have e2 : p' = (p : Int) := by omega
              subst e1; subst e2
              rw [nm_st_eq, hcn, hb]
              exact ⟨rfl, fun _ h' y z => a5 h' y z⟩
            · rw [nm_st_nj g, nm_gt_frn F3 hL2 (by decide) (by decide)]
              refine ⟨(a2 m' p' a b c e (by omega)).1, fun x h' y z => ?_⟩
              rw [b5 _ (by omega), nm_st_ne (by decide), nm_gt_frn F3 hL2 (by decide) (by decide)]
              exact (a2 m' p' a b c e (by omega)).2 x h' y z
          · refine ⟨fun _ => ⟨by omega, by omega, fun _ => ?_, fun c => absurd rfl c⟩, fun c => absurd (show ((if true = true then (1 : Int) else 0)) ≠ 0 by decide) c⟩
            exact non (by omega) (by rw [hcn, hb]; rfl) M3 F3
    exact key2 0 (Nat.zero_le _) M1 _ F1 (fun m' p' a b c e f => a1 m' p' a b c e (by omega))
  exact key1 0 (Nat.zero_le _) M _ _ (nm_Fg_refl _ _) (fun m' p' a b c e f => absurd f (by omega))
/-- what is left of the clock -/
def nm_K26 (M : am_M) (c : Int → Int) (l : List Int) : Prop := (∀ q, 0 ≤ q → q < 8 → am_gt M 26 q = c q - (l.count q : Int)) ∧ am_gt M 20 11 = nm_off c l
abbrev nm_kcg : nm_Rg := [(20, 11, 12), (26, 0, 8)]
theorem nm_off_nil {c : Int → Int} (hc : ∀ q, 0 ≤ q → q < 8 → 0 ≤ c q ∧ c q ≤ 3) : ∀ k : Nat, k ≤ 8 → nm_sm (fun q => nm_ab ((([] : List Int).count q : Int) - c q)) k = nm_sm c k
  | 0, _ => rfl
  | k + 1, hk => by
    show nm_sm _ k + nm_ab ((([] : List Int).count (k : Int) : Int) - c (k : Int)) = nm_sm c k + c (k : Int)
    have h1 := hc (k : Int) (by omega) (by omega)
    rw [nm_off_nil hc k (by omega), List.count_nil]
    unfold nm_ab
    split <;> omega
theorem nmc_83 {d : Nat} {X : nm_X} {M : am_M} {Q : List am_V → am_M → Prop} (hC : nm_C M X) (hQ : ∀ M', nm_Fr nm_kcg M M' → nm_K26 M' (fun q => nx_S X (77 + q)) [] → Q [(0, nm_sm (fun q => nx_S X (77 + q)) 8)] M') : am_CL d 83 [(2, 20)] M Q := by
  have oc := hC.1.2.2.1.2.2.2.2.2.2.2.2.2.2.2.1
  have F0 : nm_Fr nm_kcg M (am_st M 20 11 0) := nm_Fr_st (nm_Fg_refl _ _) (by decide)
  refine h_83_0 (nm_C_L hC) ?_
  have key : ∀ k : Nat, k ≤ 8 → ∀ M1, nm_Fr nm_kcg M M1 → (∀ q, 0 ≤ q → q < (k : Int) → am_gt M1 26 q = nx_S X (77 + q)) → am_gt M1 20 11 = nm_sm (fun q => nx_S X (77 + q)) k → am_WP d am_c83 7 [(2, 20), (0, (k : Int))] [] M1 Q := by
    refine nm_dn ?_
    intro k hk ih M1 F1 a1 b1
    have C1 := nm_C_fr hC F1 (by decide +kernel)
    refine h_83_7 (nm_C_L C1) ⟨fun h => ?_, fun h => ⟨by omega, by omega, ?_⟩⟩
    · have hk8 : k = 8 := by omega
      subst hk8
      rw [b1]
      refine hQ M1 F1 ⟨fun q x y => ?_, ?_⟩
      · rw [a1 q x (by omega), List.count_nil]; show _ = nx_S X (77 + q) - 0; omega
      · rw [b1]; exact (nm_off_nil oc 8 (by decide)).symm
    · have hb := nm_sm_in (f := fun q => nx_S X (77 + q)) (b := 3) (n := k) (fun i hi => oc (i : Int) (by omega) (by omega))
      have h1 := oc (k : Int) (by omega) (by omega)
      rw [show am_gt M1 6 (k : Int) = nx_S X (77 + (k : Int)) from nm_sclock C1.1.2.1 (by omega) (by omega), b1, nm_wk (by omega), am_w_id (x := _ + nx_S X (77 + (k : Int))) (by omega) (by omega)]
      refine ih (by omega) _ (nm_Fr_st (nm_Fr_st F1 (nm_in_c (a := 26) (lo := 0) (hi := 8) (by decide) (by omega) (by omega))) (by decide)) (fun q x y => ?_) ?_
      · rw [nm_st_ne (by decide), nm_gt_st]
        by_cases hq : q = (k : Int)
        · rw [if_pos ⟨rfl, hq⟩, hq]
        · rw [if_neg (fun c => hq c.2)]; exact a1 q x (by omega)
      · rw [nm_st_eq]; rfl
  exact key 0 (by decide) _ F0 (fun q x y => absurd y (by omega)) nm_st_eq
/-- the mirrors of a line as bits -/
def nm_msk : List Int → Int
  | [] => 0
  | m :: T => am_or (nm_msk T) (am_shl 1 m)
theorem nm_msk_in {N : Int} (N6 : N ≤ 6) : ∀ {T : List Int}, nm_inN N T → (0 ≤ nm_msk T ∧ nm_msk T ≤ 255) ∧ ∀ k, 0 ≤ k → k ≤ 7 → nm_b8 (nm_msk T) k = if k ∈ T then 1 else 0
  | [], _ => ⟨⟨Int.le_refl _, show (0 : Int) ≤ 255 by decide⟩, fun k a b => by
      rw [if_neg (by simp)]; show nm_b8 0 k = 0
      unfold nm_b8; rw [Int.zero_ediv]; rfl⟩
  | m :: T, h => by
    obtain ⟨h1, h2⟩ := nm_msk_in N6 (T := T) (fun a ha => h a (List.mem_cons_of_mem _ ha))
    have hm := h m List.mem_cons_self
    obtain ⟨o1, o2⟩ := nm_o8 h1.1 h1.2 hm.1 (by omega)
    refine ⟨o1, fun k a b => ?_⟩
    show nm_b8 (am_or (nm_msk T) (am_shl 1 m)) k = _
    rw [o2 k a b, h2 k a b]
    by_cases e : k = m
    · rw [if_pos e, if_pos (by rw [e]; exact List.mem_cons_self)]
    · rw [if_neg e]
      by_cases g : k ∈ T
      · rw [if_pos g, if_pos (List.mem_cons_of_mem _ g)]
      · rw [if_neg g, if_neg (fun c => (List.mem_cons.1 c).elim e g)]
theorem nmc_84 {d : Nat} {N n H m : Int} {cn : Int → Int → Bool} {mk : Int → Int → Int → Int} {T : List Int} {M : am_M} {Q : List am_V → am_M → Prop} (hL : nm_Lay M) (N6 : N ≤ 6) (ht : ∀ m p, 0 ≤ m → m < N → 0 ≤ p → p < n → am_gt M 23 (6 * m + p) = (if cn m p then 1 else 0)) (hi : nm_inN N T) (hl : (T.length : Int) < n) (n6 : n ≤ 6) (m0 : 0 ≤ m) (m1 : m < N) (h1 : nm_okm cn T m = true → Q [(0, 1)] M) (h0 : nm_okm cn T m = false → Q [(0, 0)] M) : am_CL d 84 [(2, 20), (0, m), (0, (T.length : Int)), (0, nm_msk T)] M Q := by
  obtain ⟨k1, k2⟩ := nm_msk_in N6 hi
  have e : am_and (am_shr (nm_msk T) m) 1 = nm_b8 (nm_msk T) m := by
    have := nm_b8_dec (nm_msk T).toNat (by omega) m.toNat (by omega)
    rw [show ((nm_msk T).toNat : Int) = nm_msk T by omega, show (m.toNat : Int) = m by omega] at this
    exact this
  refine h_84_0 hL ?_
  rw [e, k2 m m0 (by omega), am_w_id (x := m * 6) (by omega) (by omega), am_w_id (x := m * 6 + (T.length : Int)) (by omega) (by omega), show m * 6 + (T.length : Int) = 6 * m + (T.length : Int) by omega, ht m (T.length : Int) m0 m1 (by omega) hl]
  by_cases g : m ∈ T
  · rw [if_pos g]
    refine ⟨fun _ => h0 ?_, fun c => absurd (by decide) c⟩
    unfold nm_okm; rw [decide_eq_false (fun c => c g), Bool.and_false]
  · rw [if_neg g]
    refine ⟨fun c => absurd rfl c, fun _ => ⟨by omega, by omega, ?_⟩⟩
    have eo : nm_okm cn T m = cn m (T.length : Int) := by unfold nm_okm; rw [decide_eq_true g, Bool.and_true]
    rw [eo] at h1 h0
    cases hc : cn m (T.length : Int)
    · exact ⟨fun _ => h0 hc, fun c => absurd rfl c⟩
    · exact ⟨fun c => absurd c (by decide), fun _ => h1 hc⟩
/-- one more, one less -/
theorem nm_sm_chg {f g : Int → Int} {v e : Int} (v0 : 0 ≤ v) (h : ∀ q, q ≠ v → g q = f q) (hv : g v = f v + e) : ∀ k : Nat, nm_sm g k = nm_sm f k + if v < (k : Int) then e else 0
  | 0 => by rw [if_neg (by omega)]; show (0 : Int) = 0 + 0; rfl
  | k + 1 => by
    show nm_sm g k + g (k : Int) = nm_sm f k + f (k : Int) + _
    rw [nm_sm_chg v0 h hv k]
    by_cases a : v = (k : Int)
    · rw [if_neg (by omega), if_pos (by omega), ← a, hv]; omega
    · rw [h (k : Int) (fun c => a c.symm)]
      by_cases b : v < (k : Int)
      · rw [if_pos b, if_pos (by omega)]; omega
      · rw [if_neg b, if_neg (by omega)]; omega
theorem nm_off_add {c : Int → Int} {l l' : List Int} {v : Int} (v0 : 0 ≤ v) (v7 : v ≤ 7) (hc : ∀ q, (l'.count q : Int) = (l.count q : Int) + if v = q then 1 else 0) : nm_off c l' = nm_off c l + if (l.count v : Int) < c v then -1 else 1 := by
  unfold nm_off
  rw [nm_sm_chg (f := fun q => nm_ab ((l.count q : Int) - c q)) (e := if (l.count v : Int) < c v then -1 else 1) v0 (fun q hq => ?_) ?_ 8, if_pos (by omega)]
  · show nm_ab _ = nm_ab _ + _
    rw [hc v, if_pos rfl]
    unfold nm_ab
    split <;> split <;> split <;> omega
  · show nm_ab _ = nm_ab _
    rw [hc q, if_neg (fun z => hq z.symm), Int.add_zero]
theorem nm_K26_add {M : am_M} {c : Int → Int} {l l' : List Int} {v x y : Int} (h : nm_K26 M c l) (v0 : 0 ≤ v) (v7 : v ≤ 7) (hc : ∀ q, (l'.count q : Int) = (l.count q : Int) + if v = q then 1 else 0) (hx : x = c v - (l.count v : Int) - 1) (hy : y = nm_off c l + if (l.count v : Int) < c v then -1 else 1) : nm_K26 (am_st (am_st M 26 v x) 20 11 y) c l' := by
  refine ⟨fun q a b => ?_, ?_⟩
  · rw [nm_st_ne (by decide), nm_gt_st, hc q]
    by_cases e : q = v
    · rw [if_pos ⟨rfl, e⟩, if_pos e.symm, hx, e]; omega
    · rw [if_neg (fun z => e z.2), if_neg (fun z => e z.symm), h.1 q a b]; omega
  · rw [nm_st_eq, hy, nm_off_add v0 v7 hc]
theorem nm_K26_sub {M : am_M} {c : Int → Int} {l l' : List Int} {v x y : Int} (h : nm_K26 M c l') (v0 : 0 ≤ v) (v7 : v ≤ 7) (hc : ∀ q, (l'.count q : Int) = (l.count q : Int) + if v = q then 1 else 0) (hx : x = c v - (l'.count v : Int) + 1) (hy : y = nm_off c l' + if c v - (l'.count v : Int) + 1 ≤ 0 then -1 else 1) : nm_K26 (am_st (am_st M 26 v x) 20 11 y) c l := by
  have hv := hc v
  rw [if_pos rfl] at hv
  refine ⟨fun q a b => ?_, ?_⟩
  · have hq := hc q
    rw [nm_st_ne (by decide), nm_gt_st]
    by_cases e : q = v
    · rw [if_pos ⟨rfl, e⟩, hx, e]; omega
    · rw [if_neg (fun z => e z.2), h.1 q a b]; rw [if_neg (fun z => e z.symm)] at hq; omega
  · rw [nm_st_eq, hy, nm_off_add v0 v7 hc]
    by_cases g : (l.count v : Int) < c v
    · rw [if_pos g, if_neg (by omega)]; omega
    · rw [if_neg g, if_pos (by omega)]; omega
theorem nm_hs_cons (f : Int → Int) (lo : Int) (n : Nat) : nm_hs f lo (n + 1) = f lo :: nm_hs f (lo + 1) n := by
  unfold nm_hs
  rw [List.range_succ_eq_map, List.map_cons, List.map_map]
  refine congr (congrArg List.cons ?_) (List.map_congr_left (fun k _ => ?_))
  · show f (lo + ((0 : Nat) : Int)) = f lo
    rw [show lo + ((0 : Nat) : Int) = lo by omega]
  · show f (lo + ((k + 1 : Nat) : Int)) = f (lo + 1 + (k : Int))
    rw [show lo + ((k + 1 : Nat) : Int) = lo + 1 + (k : Int) by omega]
theorem nmc_87 {d : Nat} {m p H : Int} {f c : Int → Int} {l : List Int} {M : am_M} {Q : List am_V → am_M → Prop} (hd : 1 ≤ d) (hL : nm_Lay M) (m0 : 0 ≤ m) (m1 : m < 6) (p0 : 0 ≤ p) (p1 : p < 6) (H0 : 0 ≤ H) (H8 : H ≤ 8) (ht : ∀ h, p < h → h ≤ H → am_gt M 22 (48 * m + 8 * p + h - 1) = f h) (hf : ∀ h, 0 ≤ f h ∧ f h ≤ 7) (hk : nm_K26 M c l) (hc : ∀ q, 0 ≤ q → q < 8 → 0 ≤ c q ∧ c q ≤ 3) (hl : l.length ≤ 60) (hQ : ∀ M', nm_Fr nm_kcg M M' → nm_K26 M' c (l ++ nm_hs f (p + 1) (H - p).toNat) → Q [] M') : am_CL d 87 [(2, 20), (0, m), (0, p), (0, H)] M Q := by
  refine h_87_0 hL ?_
  rw [am_w_id (by omega) (by omega)]
  have key : ∀ i : Nat, i ≤ (H - p).toNat → ∀ M1 l5, nm_Fr nm_kcg M M1 → nm_K26 M1 c (l ++ nm_hs f (p + 1) i) → am_WP d am_c87 5 [(2, 20), (0, m), (0, p), (0, H), (0, p + 1 + (i : Int)), l5] [] M1 Q := by
    refine nm_dn ?_
    intro i hi ih M1 l5 F1 k1
    have hL1 := nm_Lay_fr hL F1 (by decide +kernel)
    refine h_87_5 hL1 ⟨fun h => ?_, fun h => ⟨by omega, nmc_80 hL1 m0 m1 p0 p1 (by omega) (by omega) ?_⟩⟩
    · have e : i = (H - p).toNat := by omega
      rw [e] at k1; exact hQ M1 F1 k1
    · refine h_87_22 hL1 ?_
      rw [(nm_gt_frn F1 hL (by decide) (by decide)).trans (ht (p + 1 + (i : Int)) (by omega) (by omega))]
      have hin := hf (p + 1 + (i : Int))
      have hlen : (l ++ nm_hs f (p + 1) i).length ≤ 100 := by rw [List.length_append, nm_hs_len]; omega
      have hcnt : (l ++ nm_hs f (p + 1) i).count (f (p + 1 + (i : Int))) ≤ 100 := Nat.le_trans List.count_le_length hlen
      have hcv := hc _ hin.1 (by omega)
      have hof : 0 ≤ nm_off c (l ++ nm_hs f (p + 1) i) ∧ nm_off c (l ++ nm_hs f (p + 1) i) ≤ ((8 : Nat) : Int) * 100 := nm_off_in hlen hc 8 (Nat.le_refl _)
      have hcc : ∀ q, ((l ++ nm_hs f (p + 1) (i + 1)).count q : Int) = ((l ++ nm_hs f (p + 1) i).count q : Int) + if f (p + 1 + (i : Int)) = q then 1 else 0 := fun q => by
        rw [nm_hs_succ, ← List.append_assoc, nm_count1]
      have F2 : ∀ x y, nm_Fr nm_kcg M (am_st (am_st M1 26 (f (p + 1 + (i : Int))) x) 20 11 y) := fun x y => nm_Fr_st (nm_Fr_st F1 (nm_in_c (a := 26) (lo := 0) (hi := 8) (by decide) hin.1 (by omega))) (by decide)
      rw [k1.1 _ hin.1 (by omega), k1.2, am_w_id (x := _ - 1) (by omega) (by omega), am_w_id (x := _ + -1) (by omega) (by omega), am_w_id (x := nm_off c (l ++ nm_hs f (p + 1) i) + 1) (by omega) (by omega), am_w_id (x := p + 1 + (i : Int) + 1) (by omega) (by omega), show p + 1 + (i : Int) + 1 = p + 1 + ((i + 1 : Nat) : Int) by omega]
      refine ⟨by omega, by omega, hin.1, by omega, fun g => ?_, fun g => ?_⟩
      · exact ih (by omega) _ _ (F2 _ _) (nm_K26_add k1 hin.1 hin.2 hcc rfl (by rw [if_pos (by omega)]))
      · exact ih (by omega) _ _ (F2 _ _) (nm_K26_add k1 hin.1 hin.2 hcc rfl (by rw [if_neg (by omega)]))
  have := key 0 (Nat.zero_le _) M (9, 0) (nm_Fg_refl _ _) (by rw [show nm_hs f (p + 1) 0 = [] from rfl, List.append_nil]; exact hk)
  rw [show p + 1 + ((0 : Nat) : Int) = p + 1 by omega] at this
  exact this
theorem nmc_88 {d : Nat} {m p H : Int} {f c : Int → Int} {l : List Int} {M : am_M} {Q : List am_V → am_M → Prop} (hd : 1 ≤ d) (hL : nm_Lay M) (m0 : 0 ≤ m) (m1 : m < 6) (p0 : 0 ≤ p) (p1 : p < 6) (H0 : 0 ≤ H) (H8 : H ≤ 8) (ht : ∀ h, p < h → h ≤ H → am_gt M 22 (48 * m + 8 * p + h - 1) = f h) (hf : ∀ h, 0 ≤ f h ∧ f h ≤ 7) (hk : nm_K26 M c (l ++ nm_hs f (p + 1) (H - p).toNat)) (hc : ∀ q, 0 ≤ q → q < 8 → 0 ≤ c q ∧ c q ≤ 3) (hl : l.length ≤ 60) (hQ : ∀ M', nm_Fr nm_kcg M M' → nm_K26 M' c l → Q [] M') : am_CL d 88 [(2, 20), (0, m), (0, p), (0, H)] M Q := by
  refine h_88_0 hL ?_
  rw [am_w_id (by omega) (by omega)]
  have key : ∀ i : Nat, i ≤ (H - p).toNat → ∀ M1 l5, nm_Fr nm_kcg M M1 → nm_K26 M1 c (l ++ nm_hs f (p + 1 + (i : Int)) ((H - p).toNat - i)) → am_WP d am_c88 5 [(2, 20), (0, m), (0, p), (0, H), (0, p + 1 + (i : Int)), l5] [] M1 Q := by
    refine nm_dn ?_
    intro i hi ih M1 l5 F1 k1
    have hL1 := nm_Lay_fr hL F1 (by decide +kernel)
    refine h_88_5 hL1 ⟨fun h => ?_, fun h => ⟨by omega, nmc_80 hL1 m0 m1 p0 p1 (by omega) (by omega) ?_⟩⟩
    · rw [show (H - p).toNat - i = 0 by omega, show nm_hs f (p + 1 + (i : Int)) 0 = [] from rfl, List.append_nil] at k1
      exact hQ M1 F1 k1
    · refine h_88_22 hL1 ?_
      rw [(nm_gt_frn F1 hL (by decide) (by decide)).trans (ht (p + 1 + (i : Int)) (by omega) (by omega))]
      have hin := hf (p + 1 + (i : Int))
      have hlen : (l ++ nm_hs f (p + 1 + (i : Int)) ((H - p).toNat - i)).length ≤ 100 := by rw [List.length_append, nm_hs_len]; omega
      have hcnt : (l ++ nm_hs f (p + 1 + (i : Int)) ((H - p).toNat - i)).count (f (p + 1 + (i : Int))) ≤ 100 := Nat.le_trans List.count_le_length hlen
      have hcv := hc _ hin.1 (by omega)
      have hof : 0 ≤ nm_off c (l ++ nm_hs f (p + 1 + (i : Int)) ((H - p).toNat - i)) ∧ nm_off c (l ++ nm_hs f (p + 1 + (i : Int)) ((H - p).toNat - i)) ≤ ((8 : Nat) : Int) * 100 := nm_off_in hlen hc 8 (Nat.le_refl _)
      have hcc : ∀ q, ((l ++ nm_hs f (p + 1 + (i : Int)) ((H - p).toNat - i)).count q : Int) = ((l ++ nm_hs f (p + 1 + ((i + 1 : Nat) : Int)) ((H - p).toNat - (i + 1))).count q : Int) + if f (p + 1 + (i : Int)) = q then 1 else 0 := fun q => by
        rw [show (H - p).toNat - i = ((H - p).toNat - (i + 1)) + 1 by omega, nm_hs_cons, show p + 1 + (i : Int) + 1 = p + 1 + ((i + 1 : Nat) : Int) by omega, List.count_append, List.count_append, List.count_cons]
        by_cases e : f (p + 1 + (i : Int)) = q
        · rw [if_pos e, if_pos (by simpa using e)]; omega
        · rw [if_neg e, if_neg (by simpa using e)]; omega
      have F2 : ∀ x y, nm_Fr nm_kcg M (am_st (am_st M1 26 (f (p + 1 + (i : Int))) x) 20 11 y) := fun x y => nm_Fr_st (nm_Fr_st F1 (nm_in_c (a := 26) (lo := 0) (hi := 8) (by decide) hin.1 (by omega))) (by decide)
      rw [k1.1 _ hin.1 (by omega), k1.2, am_w_id (x := c (f (p + 1 + (i : Int))) - _ + 1) (by omega) (by omega), am_w_id (x := _ + -1) (by omega) (by omega), am_w_id (x := nm_off c (l ++ nm_hs f (p + 1 + (i : Int)) ((H - p).toNat - i)) + 1) (by omega) (by omega), am_w_id (x := p + 1 + (i : Int) + 1) (by omega) (by omega), show p + 1 + (i : Int) + 1 = p + 1 + ((i + 1 : Nat) : Int) by omega]
      refine ⟨by omega, by omega, hin.1, by omega, fun g => ?_, fun g => ?_⟩
      · exact ih (by omega) _ _ (F2 _ _) (nm_K26_sub k1 hin.1 hin.2 hcc rfl (by rw [if_pos g]))
      · exact ih (by omega) _ _ (F2 _ _) (nm_K26_sub k1 hin.1 hin.2 hcc rfl (by rw [if_neg g]))
  have := key 0 (Nat.zero_le _) M (9, 0) (nm_Fg_refl _ _) (by rw [show p + 1 + ((0 : Nat) : Int) = p + 1 by omega]; exact hk)
  rw [show p + 1 + ((0 : Nat) : Int) = p + 1 by omega] at this
  exact this
