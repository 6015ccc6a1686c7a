/-! LINES, the reference: whole, listen -/
def nm_wr (i : Int) : Option (List Int) → Int
  | none => -1
  | some T => if i = -1 then (T.length : Int) else if i < (T.length : Int) then nm_at T i else -1
def nm_wf (X : nm_X) (H : Int) (L : List (List Int)) : Option (List Int) := L.find? (fun T => decide (nm_ofl X H T = 0))
def sp_24 (X : nm_X) (H i : Int) : nm_X × Int := (X, if (1 ≤ H ∧ H ≤ 8) ∧ -1 ≤ i then nm_wr i (nm_wf X H (nm_gs (nm_cn X) (nx_S X 0) ((nx_S X 0).toNat + 1) 0)) else -1)
theorem nm_wf_no {X : nm_X} {H : Int} {T : List Int} {L : List (List Int)} (h : nm_ofl X H T ≠ 0) : nm_wf X H (T :: L) = nm_wf X H L := by
  unfold nm_wf; rw [List.find?_cons, decide_eq_false h]
theorem nm_wf_yes {X : nm_X} {H : Int} {T : List Int} {L : List (List Int)} (h : nm_ofl X H T = 0) : nm_wf X H (T :: L) = some T := by
  unfold nm_wf; rw [List.find?_cons, decide_eq_true h]
abbrev nm_whM : nm_Rg := [(235, 0, 8), (239, 0, 7), (240, 0, 6)]
theorem nmq_24 {d : Nat} {H i : Int} {X : nm_X} {M : am_M} {Q : List am_V → am_M → Prop} (hd : 12 ≤ d) (hok : nm_ok X) (hM : nm_M M X) (hQ : nm_KM (sp_24 X H i).1 [(0, (sp_24 X H i).2)] M Q) : am_CL d 232 [(2, 214), (0, H), (0, i)] M Q := by
  have F0 := nm_m0F (M := M)
  have hM0 := nm_m0 hok hM
  have hL := nm_M_L hM0
  refine h_232_0 (nm_M_L hM) ?_
  generalize am_st M 214 0 0 = M0 at F0 hM0 hL ⊢
  have o0 := hM0.1.2.2.2.1.1
  have q := fun M' (F : nm_Fr nm_mAll M0 M') => hQ M' (nm_Fr_trans F0 F)
  unfold sp_24 at q
  simp only at q
  refine ⟨by omega, nmm_156 (by omega) hL (fun a b => ?_) (fun h => ?_)⟩
  · refine h_232_9 hL ⟨fun c => absurd c (by decide), fun _ => ⟨fun i1 => ⟨by omega, nmm_228 (by omega) hok hM0 (fun M1 F1 t1 t2 => ?_)⟩, fun i1 => ?_⟩⟩
    · rw [if_pos ⟨⟨a, b⟩, i1⟩] at q
      have B1 : nm_LB M1 X := ⟨nm_M_fr hok hM0 F1 (by decide +kernel), t1, t2⟩
      have q1 := fun M' (F : nm_Fr nm_whM M1 M') => q M' (nm_Fr_trans (nm_mF F1 (by decide +kernel)) (nm_mF F (by decide +kernel)))
      have lb : ∀ {M2}, nm_Fr nm_whM M1 M2 → nm_LB M2 X := fun F => nm_LB_fr hok B1 F (by decide +kernel) (by decide) (by decide)
      have s0 : ∀ {M2}, nm_LB M2 X → am_gt M2 216 0 = nx_S X 0 := fun h => h.1.1.2.1 0 (.inl ⟨by decide, by decide⟩)
      have fin : ∀ (T : List Int) M2 x4 l5 l6 l7, nm_Fr nm_whM M1 M2 → T.length ≤ 6 → (∀ q, 0 ≤ q → q < (T.length : Int) → am_gt M2 240 q = nm_at T q) → nm_wf X H (nm_gs (nm_cn X) (nx_S X 0) ((nx_S X 0).toNat + 1) 0) = some T → am_WP d am_c232 28 [(2, 214), (0, H), (0, i), (0, (T.length : Int)), (0, x4), l5, l6, l7] [] M2 Q := by
        intro T M2 x4 l5 l6 l7 F2 hl h240 e2
        have := q1 M2 F2 (lb F2).1
        rw [e2] at this
        have R : ((i ≠ (-1) → (((T.length : Int) ≤ i → Q [(0, (-1))] M2) ∧ (¬ ((T.length : Int) ≤ i) → (0 : Int) ≤ i ∧ i < 6 ∧ Q [(0, am_gt M2 240 i)] M2))) ∧ (¬ (i ≠ (-1)) → Q [(0, (T.length : Int))] M2)) := by
          refine ⟨fun ni => ⟨fun h => ?_, fun h => ⟨by omega, by omega, ?_⟩⟩, fun ni => ?_⟩
          · rw [show nm_wr i (some T) = -1 by show (if i = -1 then _ else _) = _; rw [if_neg ni, if_neg (by omega)]] at this; exact this
          · rw [show nm_wr i (some T) = nm_at T i by show (if i = -1 then _ else _) = _; rw [if_neg ni, if_pos (by omega)]] at this
            rw [h240 i (by omega) (by omega)]; exact this
          · rw [show nm_wr i (some T) = (T.length : Int) by show (if i = -1 then _ else _) = _; rw [if_pos (Decidable.of_not_not ni)]] at this; exact this
        exact h_232_28 (nm_M_L (lb F2).1) ⟨fun _ => R, fun _ => ⟨fun _ => R, fun c => absurd (show (T.length : Int) ≠ -1 by omega) c⟩⟩
      have fin53 : ∀ (T : List Int) M2 x4 x5 l6 l7, nm_Fr nm_whM M1 M2 → T.length ≤ 6 → (∀ q, 0 ≤ q → q < (T.length : Int) → am_gt M2 240 q = nm_at T q) → nm_wf X H (nm_gs (nm_cn X) (nx_S X 0) ((nx_S X 0).toNat + 1) 0) = some T → am_WP d am_c232 53 [(2, 214), (0, H), (0, i), (0, (T.length : Int)), (0, x4), (0, x5), l6, l7] [] M2 Q := by
        intro T M2 x4 x5 l6 l7 F2 hl h240 e2
        exact h_232_53 (nm_M_L (lb F2).1) ⟨fun _ => fin T M2 _ _ _ _ F2 hl h240 e2, fun _ => ⟨fun _ => fin T M2 _ _ _ _ F2 hl h240 e2, fun c => absurd (show (T.length : Int) ≠ -1 by omega) c⟩⟩
      have cop : ∀ (T : List Int) x5, T.length ≤ 6 → nm_inN (nx_S X 0) T → nm_wf X H (nm_gs (nm_cn X) (nx_S X 0) ((nx_S X 0).toNat + 1) 0) = some T → ∀ j : Nat, j ≤ T.length → ∀ M2, nm_Fr nm_whM M1 M2 → nm_MTn M2 T → (∀ q, 0 ≤ q → q < (j : Int) → am_gt M2 240 q = nm_at T q) → am_WP d am_c232 83 [(2, 214), (0, H), (0, i), (0, (-1)), (0, (T.length : Int)), (0, x5), (0, 1), (0, (j : Int))] [] M2 Q := by
        intro T x5 hl hi e2
        refine nm_dn ?_
        intro j hj ih M2 F2 hT h240
        have B2 := lb F2
        have hL2 := nm_M_L B2.1
        refine h_232_83 hL2 ⟨fun h => ⟨fun c => absurd c (by decide), fun _ => ⟨by omega, ?_⟩⟩, fun h => ⟨fun c => absurd c (by decide), fun _ => ⟨by omega, by omega, by omega, ?_⟩⟩⟩
        · have go : ∀ x M3, nm_Fr nm_nl M2 M3 → am_WP d am_c232 134 [(2, 214), (0, H), (0, i), (0, (T.length : Int)), (0, (T.length : Int)), (0, x5), (0, 1), (0, (j : Int))] [(0, x)] M3 Q := by
            intro x M3 F3
            have F03 : nm_Fr nm_whM M1 M3 := nm_Fr_trans F2 (nm_Fr_sub F3 (by decide))
            exact h_232_134 (nm_M_L (lb F03).1) (fin53 T M3 _ _ _ _ F03 hl (fun q x y => (nm_gt_frn F3 hL2 (by decide) (by decide)).trans (h240 q x (by omega))) e2)
          exact nmm_230n (T := T) (by omega) hL2 (s0 B2) o0.1 o0.2 B2.2.1 hl rfl hi hT (fun _ M3 F3 => go 0 M3 F3) (fun T' M3 _ _ _ F3 _ => go 1 M3 F3)
        · rw [nm_wk (by omega), hT (j : Int) (by omega) (by omega)]
          refine ih (by omega) _ (nm_Fr_st F2 (nm_in_c (a := 240) (lo := 0) (hi := 6) (by decide +kernel) (by omega) (by omega))) (fun q x y => (nm_st_ne (by decide)).trans (hT q x y)) (fun q x y => ?_)
          rw [nm_gt_st]
          by_cases hq : q = (j : Int)
          · rw [if_pos ⟨rfl, hq⟩, hq]
          · rw [if_neg (fun c => hq c.2)]; exact h240 q x (by omega)
      refine h_232_23 (nm_M_L B1.1) ?_
      have outer : ∀ n : Nat, n ≤ (nx_S X 0).toNat + 1 → ∀ M2 l5 l6 l7, nm_Fr nm_whM M1 M2 → nm_wf X H (nm_gs (nm_cn X) (nx_S X 0) ((nx_S X 0).toNat + 1) 0) = nm_wf X H (nm_gs (nm_cn X) (nx_S X 0) ((nx_S X 0).toNat + 1 - n) n) → am_WP d am_c232 28 [(2, 214), (0, H), (0, i), (0, (-1)), (0, (n : Int)), l5, l6, l7] [] M2 Q := by
        refine nm_dn ?_
        intro n hn ih M2 l5 l6 l7 F2 e2
        have B2 := lb F2
        refine h_232_28 (nm_M_L B2.1) ?_
        rw [s0 B2]
        refine ⟨fun h => ?_, fun h => ⟨fun c => absurd rfl c, fun _ => ⟨by omega, ?_⟩⟩⟩
        · rw [show (nx_S X 0).toNat + 1 - n = 0 by omega] at e2
          have := q1 M2 F2 B2.1
          rw [e2] at this
          exact ⟨fun _ => ⟨fun _ => this, fun c => absurd i1 c⟩, fun _ => this⟩
        · have hn6 : n ≤ 6 := by omega
          rw [show (nx_S X 0).toNat + 1 - n = ((nx_S X 0).toNat + 1 - (n + 1)) + 1 by omega] at e2
          rw [show nm_gs (nm_cn X) (nx_S X 0) (((nx_S X 0).toNat + 1 - (n + 1)) + 1) n = nm_gen (nm_cn X) (nx_S X 0) n [] ++ nm_gs (nm_cn X) (nx_S X 0) ((nx_S X 0).toNat + 1 - (n + 1)) (n + 1) from rfl] at e2
          generalize hR : nm_gs (nm_cn X) (nx_S X 0) ((nx_S X 0).toNat + 1 - (n + 1)) (n + 1) = R at e2 ih
          have nx : ∀ M3 l6 l7, nm_Fr nm_whM M1 M3 → nm_wf X H (nm_gs (nm_cn X) (nx_S X 0) ((nx_S X 0).toNat + 1) 0) = nm_wf X H R → am_WP d am_c232 53 [(2, 214), (0, H), (0, i), (0, (-1)), (0, (n : Int)), (0, 0), l6, l7] [] M3 Q := by
            intro M3 l6 l7 F3 e3
            refine h_232_53 (nm_M_L (lb F3).1) ⟨fun _ => ?_, fun c => absurd rfl c⟩
            rw [nm_wk (by omega)]
            exact ih (by omega) M3 _ _ _ F3 e3
          have lp : ∀ (L : List (List Int)) (T : List Int) M3 l6 l7, nm_rst (nm_cn X) (nx_S X 0) n T = L → T.length = n → nm_inN (nx_S X 0) T → nm_Fr nm_whM M1 M3 → nm_MTn M3 T → nm_wf X H (nm_gs (nm_cn X) (nx_S X 0) ((nx_S X 0).toNat + 1) 0) = nm_wf X H (T :: (L ++ R)) → am_WP d am_c232 53 [(2, 214), (0, H), (0, i), (0, (-1)), (0, (n : Int)), (0, 1), l6, l7] [] M3 Q := by
            intro L
            induction L with
            | nil =>
              intro T M3 l6 l7 hr hl hi F3 hT e3
              have B3 := lb F3
              refine h_232_53 (nm_M_L B3.1) ⟨fun c => absurd c (by decide), fun _ => ⟨fun c => absurd rfl c, fun _ => ⟨by omega, nmm_231 (T := T) (by omega) hok B3.1 B3.2.2 hT hi hl hn6 a b (fun M4 F4 => ?_)⟩⟩⟩
              have F04 : nm_Fr nm_whM M1 M4 := nm_Fr_trans F3 (nm_Fr_sub F4 (by decide))
              have B4 := lb F04
              have hT4 := nm_MTn_fr (nm_M_L B3.1) hT F4 (by decide)
              have eo : nm_off (fun q => nx_S X (77 + q)) (nm_ms (nm_mkx X) H (nm_at T) n) = nm_ofl X H T := by unfold nm_ofl; rw [hl]
              rw [eo]
              refine h_232_70 (nm_M_L B4.1) ⟨fun c => ?_, fun c => ?_⟩
              · rw [nm_wf_no c] at e3
                refine h_232_83 (nm_M_L B4.1) ?_
                have z : am_CL (d - 1) 230 [(2, 214), (0, (n : Int)), (0, 0)] M4 (fun r M' => am_WP d am_c232 134 [(2, 214), (0, H), (0, i), (0, (-1)), (0, (n : Int)), (0, 1), (0, 0), (0, 0)] (r ++ []) M' Q) := by
                  refine nmm_230n (by omega) (nm_M_L B4.1) (s0 B4) o0.1 o0.2 B4.2.1 hn6 hl hi hT4 (fun _ M5 F5 => ?_) (fun T' M5 r5 => ?_)
                  · have F05 : nm_Fr nm_whM M1 M5 := nm_Fr_trans F04 (nm_Fr_sub F5 (by decide))
                    exact h_232_134 (nm_M_L (lb F05).1) (nx M5 _ _ F05 e3)
                  · rw [hr] at r5; cases r5
                exact ⟨fun _ => ⟨fun _ => ⟨by omega, z⟩, fun c => absurd rfl c⟩, fun _ => ⟨fun _ => ⟨fun _ => ⟨by omega, z⟩, fun c => absurd rfl c⟩, fun c => absurd rfl c⟩⟩
              · rw [nm_wf_yes (Decidable.of_not_not c)] at e3
                have := cop T 1 (by omega) hi e3 0 (Nat.zero_le _) M4 F04 hT4 (fun q x y => absurd y (by omega))
                rw [hl] at this
                exact this
            | cons T2 L ihL =>
              intro T M3 l6 l7 hr hl hi F3 hT e3
              have B3 := lb F3
              refine h_232_53 (nm_M_L B3.1) ⟨fun c => absurd c (by decide), fun _ => ⟨fun c => absurd rfl c, fun _ => ⟨by omega, nmm_231 (T := T) (by omega) hok B3.1 B3.2.2 hT hi hl hn6 a b (fun M4 F4 => ?_)⟩⟩⟩
              have F04 : nm_Fr nm_whM M1 M4 := nm_Fr_trans F3 (nm_Fr_sub F4 (by decide))
              have B4 := lb F04
              have hT4 := nm_MTn_fr (nm_M_L B3.1) hT F4 (by decide)
              have eo : nm_off (fun q => nx_S X (77 + q)) (nm_ms (nm_mkx X) H (nm_at T) n) = nm_ofl X H T := by unfold nm_ofl; rw [hl]
              rw [eo]
              refine h_232_70 (nm_M_L B4.1) ⟨fun c => ?_, fun c => ?_⟩
              · rw [nm_wf_no c] at e3
                refine h_232_83 (nm_M_L B4.1) ?_
                have z : am_CL (d - 1) 230 [(2, 214), (0, (n : Int)), (0, 0)] M4 (fun r M' => am_WP d am_c232 134 [(2, 214), (0, H), (0, i), (0, (-1)), (0, (n : Int)), (0, 1), (0, 0), (0, 0)] (r ++ []) M' Q) := by
                  refine nmm_230n (by omega) (nm_M_L B4.1) (s0 B4) o0.1 o0.2 B4.2.1 hn6 hl hi hT4 (fun r5 => ?_) (fun T' M5 r5 l5 i5 F5 hT5 => ?_)
                  · rw [hr] at r5; cases r5
                  · rw [hr] at r5
                    obtain ⟨ra, rb⟩ := List.cons.inj r5
                    subst ra
                    have F05 : nm_Fr nm_whM M1 M5 := nm_Fr_trans F04 (nm_Fr_sub F5 (by decide))
                    exact h_232_134 (nm_M_L (lb F05).1) (ihL T2 M5 _ _ rb.symm l5 i5 F05 hT5 e3)
                exact ⟨fun _ => ⟨fun _ => ⟨by omega, z⟩, fun c => absurd rfl c⟩, fun _ => ⟨fun _ => ⟨fun _ => ⟨by omega, z⟩, fun c => absurd rfl c⟩, fun c => absurd rfl c⟩⟩
              · rw [nm_wf_yes (Decidable.of_not_not c)] at e3
                have := cop T 1 (by omega) hi e3 0 (Nat.zero_le _) M4 F04 hT4 (fun q x y => absurd y (by omega))
                rw [hl] at this
                exact this
          refine nmm_230f (by omega) (nm_M_L B2.1) (s0 B2) o0.1 o0.2 B2.2.1 hn6 (fun g3 M3 F3 => ?_) (fun T' M3 g3 l3 i3 F3 hT3 => ?_)
          · have F03 : nm_Fr nm_whM M1 M3 := nm_Fr_trans F2 (nm_Fr_sub F3 (by decide))
            exact h_232_51 (nm_M_L (lb F03).1) (nx M3 _ _ F03 (by rw [e2, g3]; rfl))
          · have F03 : nm_Fr nm_whM M1 M3 := nm_Fr_trans F2 (nm_Fr_sub F3 (by decide))
            exact h_232_51 (nm_M_L (lb F03).1) (lp _ T' M3 _ _ rfl l3 i3 F03 hT3 (by rw [e2, g3]; rfl))
      exact outer 0 (Nat.zero_le _) M1 _ _ _ (nm_Fg_refl _ _) rfl
    · have := q M0 (nm_Fg_refl _ _) hM0
      rw [if_neg (fun z => i1 z.2)] at this
      exact this
  · have := q M0 (nm_Fg_refl _ _) hM0
    rw [if_neg (by omega)] at this
    exact h_232_9 hL ⟨fun _ => this, fun c => absurd rfl c⟩
/-! listen -/
/-- the most of the heard lines that make alike at the hour h -/
def nm_ty (X : nm_X) (h : Int) : List (List Int) → (Int → Int) → Int → Int
  | [], _, mx => mx
  | T :: L, t, mx => if nm_heard X T then nm_ty X h L (nm_up t (nm_mb (nm_mkx X) h (nm_at T) (min T.length h.toNat)) (t (nm_mb (nm_mkx X) h (nm_at T) (min T.length h.toNat)) + 1)) (if t (nm_mb (nm_mkx X) h (nm_at T) (min T.length h.toNat)) + 1 ≤ mx then mx else t (nm_mb (nm_mkx X) h (nm_at T) (min T.length h.toNat)) + 1) else nm_ty X h L t mx
def nm_bs (s : Int × Int) (v h : Int) : Int × Int := if 0 < v ∧ v < s.1 then (v, h) else s
def nm_bh (al : Int → Int) : Nat → Int × Int
  | 0 => (100000000, -1)
  | k + 1 => nm_bs (nm_bh al k) (al ((k : Int) + 1)) ((k : Int) + 1)
def sp_29 (X : nm_X) (n w : Int) : nm_X × Int := (X, if (0 ≤ n ∧ n ≤ 6) ∧ 0 ≤ w ∧ w ≤ 1 then (if (nm_bh (fun h => nm_ty X h (nm_gen (nm_cn X) (nx_S X 0) n.toNat []) (fun _ => 0) 0) 8).2 = -1 then -1 else if w = 0 then (nm_bh (fun h => nm_ty X h (nm_gen (nm_cn X) (nx_S X 0) n.toNat []) (fun _ => 0) 0) 8).2 else (nm_bh (fun h => nm_ty X h (nm_gen (nm_cn X) (nx_S X 0) n.toNat []) (fun _ => 0) 0) 8).1) else -1)
abbrev nm_liM : nm_Rg := [(239, 0, 7), (241, 0, 256)]
theorem nmq_29 {d : Nat} {n w : Int} {X : nm_X} {M : am_M} {Q : List am_V → am_M → Prop} (hd : 12 ≤ d) (hok : nm_ok X) (hM : nm_M M X) (hQ : nm_KM (sp_29 X n w).1 [(0, (sp_29 X n w).2)] M Q) : am_CL d 239 [(2, 214), (0, n), (0, w)] M Q := by
  have F0 := nm_m0F (M := M)
  have hM0 := nm_m0 hok hM
  have hL := nm_M_L hM0
  refine h_239_0 (nm_M_L hM) ?_
  generalize am_st M 214 0 0 = M0 at F0 hM0 hL ⊢
  have o0 := hM0.1.2.2.2.1.1
  have q := fun M' (F : nm_Fr nm_mAll M0 M') => hQ M' (nm_Fr_trans F0 F)
  unfold sp_29 at q
  simp only at q
  refine ⟨by omega, nmm_142 hL (fun a b => ?_) (fun h => ?_)⟩
  · refine h_239_14 hL ⟨fun c => absurd c (by decide), fun _ => ⟨by omega, nmm_142 hL (fun w0 w1 => ?_) (fun hw => ?_)⟩⟩
    · rw [if_pos ⟨⟨a, b⟩, w0, w1⟩] at q
      obtain ⟨k, rfl⟩ : ∃ k : Nat, n = (k : Int) := ⟨n.toNat, by omega⟩
      rw [show ((k : Int)).toNat = k by omega] at q
      have hk6 : k ≤ 6 := by omega
      refine h_239_24 hL ⟨fun _ => ⟨by omega, nmm_228 (by omega) hok hM0 (fun M1 F1 t1 t2 => ?_)⟩, fun c => absurd (by decide) c⟩
      have B1 : nm_LB M1 X := ⟨nm_M_fr hok hM0 F1 (by decide +kernel), t1, t2⟩
      have q1 := fun M' (F : nm_Fr nm_liM M1 M') => q M' (nm_Fr_trans (nm_mF F1 (by decide +kernel)) (nm_mF F (by decide +kernel)))
      have lb : ∀ {M2}, nm_Fr nm_liM M1 M2 → nm_LB M2 X := fun F => nm_LB_fr hok B1 F (by decide +kernel) (by decide) (by decide)
      have s0 : ∀ {M2}, nm_LB M2 X → am_gt M2 216 0 = nx_S X 0 := fun h => h.1.1.2.1 0 (.inl ⟨by decide, by decide⟩)
      have hgl := nm_gen_46 (cn := nm_cn X) (N := nx_S X 0) (n := k) (T := []) o0.2 hk6
      generalize hal : (fun h => nm_ty X h (nm_gen (nm_cn X) (nx_S X 0) k []) (fun _ => 0) 0) = al at q1
      refine h_239_33 (nm_M_L B1.1) ?_
      have outer : ∀ h : Nat, h ≤ 8 → ∀ M2 l6 l7 l8, nm_Fr nm_liM M1 M2 → am_WP d am_c239 43 [(2, 214), (0, (k : Int)), (0, w), (0, (nm_bh al h).1), (0, (nm_bh al h).2), (0, (h : Int) + 1), l6, l7, l8] [] M2 Q := by
        refine nm_dn ?_
        intro h hh ih M2 l6 l7 l8 F2
        refine h_239_43 (nm_M_L (lb F2).1) ⟨fun c => ?_, fun c => ?_⟩
        · have h8 : h = 8 := by omega
          subst h8
          have := q1 M2 F2 (lb F2).1
          refine ⟨fun e => ?_, fun e => ⟨fun e' => ?_, fun e' => ?_⟩⟩
          · rw [if_pos e] at this; rw [e]; exact this
          · rw [if_neg e, if_neg e'] at this; exact this
          · rw [if_neg e, if_pos (Decidable.of_not_not e')] at this; exact this
        · have h8 : h < 8 := by omega
          have ealh : al ((h : Int) + 1) = nm_ty X ((h : Int) + 1) (nm_gen (nm_cn X) (nx_S X 0) k []) (fun _ => 0) 0 := by rw [← hal]
          have nx : ∀ M3 v l8, nm_Fr nm_liM M1 M3 → v = al ((h : Int) + 1) → am_WP d am_c239 86 [(2, 214), (0, (k : Int)), (0, w), (0, (nm_bh al h).1), (0, (nm_bh al h).2), (0, (h : Int) + 1), (0, v), (0, 0), l8] [] M3 Q := by
            intro M3 v l8 F3 ev
            have nn : ∀ l6 l7 l8, am_WP d am_c239 43 [(2, 214), (0, (k : Int)), (0, w), (0, (nm_bs (nm_bh al h) v ((h : Int) + 1)).1), (0, (nm_bs (nm_bh al h) v ((h : Int) + 1)).2), (0, am_w ((h : Int) + 1 + 1)), l6, l7, l8] [] M3 Q := by
              intro l6 l7 l8
              have := ih h8 M3 l6 l7 l8 F3
              rw [show nm_bh al (h + 1) = nm_bs (nm_bh al h) (al ((h : Int) + 1)) ((h : Int) + 1) from rfl, ← ev, show ((h + 1 : Nat) : Int) + 1 = (h : Int) + 1 + 1 by omega] at this
              rw [am_w_id (by omega) (by omega)]; exact this
            by_cases c1 : v ≤ 0
            · have es : nm_bs (nm_bh al h) v ((h : Int) + 1) = nm_bh al h := if_neg (by omega)
              rw [es] at nn
              exact h_239_86 (nm_M_L (lb F3).1) ⟨fun _ => ⟨fun _ => ⟨fun _ => nn _ _ _, fun c => absurd c1 c⟩, fun c => absurd c1 c⟩, fun c => absurd rfl c⟩
            · by_cases c2 : (nm_bh al h).1 ≤ v
              · have es : nm_bs (nm_bh al h) v ((h : Int) + 1) = nm_bh al h := if_neg (by omega)
                rw [es] at nn
                exact h_239_86 (nm_M_L (lb F3).1) ⟨fun _ => ⟨fun c => absurd c c1, fun _ => ⟨fun _ => ⟨fun c => absurd c c1, fun _ => ⟨fun _ => nn _ _ _, fun c => absurd c2 c⟩⟩, fun c => absurd c2 c⟩⟩, fun c => absurd rfl c⟩
              · have es : nm_bs (nm_bh al h) v ((h : Int) + 1) = (v, (h : Int) + 1) := if_pos (by omega)
                rw [es] at nn
                exact h_239_86 (nm_M_L (lb F3).1) ⟨fun _ => ⟨fun c => absurd c c1, fun _ => ⟨fun c => absurd c c2, fun _ => ⟨fun c => absurd c c1, fun _ => ⟨fun c => absurd c c2, fun _ => nn _ _ _⟩⟩⟩⟩, fun c => absurd rfl c⟩
          have lp : ∀ (L : List (List Int)) (T : List Int) M3 t mx cc l8, nm_rst (nm_cn X) (nx_S X 0) k T = L → T.length = k → nm_inN (nx_S X 0) T → nm_Fr nm_liM M1 M3 → nm_MTn M3 T → (∀ v, 0 ≤ v → v < 256 → am_gt M3 241 v = t v ∧ 0 ≤ t v ∧ t v ≤ cc) → cc + (L.length : Int) ≤ 50000 → al ((h : Int) + 1) = nm_ty X ((h : Int) + 1) (T :: L) t mx → am_WP d am_c239 86 [(2, 214), (0, (k : Int)), (0, w), (0, (nm_bh al h).1), (0, (nm_bh al h).2), (0, (h : Int) + 1), (0, mx), (0, 1), l8] [] M3 Q := by
            intro L
            induction L with
            | nil =>
              intro T M3 t mx cc l8 hr hl hi F3 hT h241 hc e3
              have B3 := lb F3
              have hL3 := nm_M_L B3.1
              have hcc : cc ≤ 50000 := by rw [List.length_nil] at hc; omega
              have nxt : ∀ M4 mx' l8, nm_Fr nm_liM M1 M4 → nm_MTn M4 T → al ((h : Int) + 1) = mx' → am_CL (d - 1) 230 [(2, 214), (0, (k : Int)), (0, 0)] M4 (fun r M' => am_WP d am_c239 151 [(2, 214), (0, (k : Int)), (0, w), (0, (nm_bh al h).1), (0, (nm_bh al h).2), (0, (h : Int) + 1), (0, mx'), (0, 1), l8] (r ++ []) M' Q) := by
                intro M4 mx' l8 F4 hT4 e4
                have B4 := lb F4
                refine nmm_230n (by omega) (nm_M_L B4.1) (s0 B4) o0.1 o0.2 B4.2.1 hk6 hl hi hT4 (fun _ M5 F5 => ?_) (fun T' M5 r5 => ?_)
                · have F05 : nm_Fr nm_liM M1 M5 := nm_Fr_trans F4 (nm_Fr_sub F5 (by decide))
                  exact h_239_151 (nm_M_L (lb F05).1) (nx M5 mx' _ F05 e4.symm)
                · rw [hr] at r5; cases r5
              refine h_239_86 hL3 ⟨fun c => absurd c (by decide), fun _ => ⟨by omega, nmm_237 (by omega) B3.1 B3.2.2 hT hi hl hk6 ?_⟩⟩
              cases hhd : nm_heard X T
              · refine h_239_96 hL3 ⟨fun _ => ⟨by omega, nxt M3 mx _ F3 hT ?_⟩, fun c => absurd rfl c⟩
                rw [e3]; show (if nm_heard X T then _ else _) = _; rw [hhd]; rfl
              · have e4 : al ((h : Int) + 1) = (if t (nm_mb (nm_mkx X) ((h : Int) + 1) (nm_at T) (min T.length ((h : Int) + 1).toNat)) + 1 ≤ mx then mx else t (nm_mb (nm_mkx X) ((h : Int) + 1) (nm_at T) (min T.length ((h : Int) + 1).toNat)) + 1) := by
                  rw [e3]; show (if nm_heard X T then _ else _) = _; rw [hhd]; rfl
                rw [hl] at e4
                refine h_239_96 hL3 ⟨fun c => absurd c (by decide), fun _ => ⟨by omega, nmm_236 (X := X) (T := T) (by omega) hL3 o0.2 B3.2.2 hT hi hl hk6 (by omega) (by omega) ?_⟩⟩
                have hin := nm_mb_in (X := X) (h := (h : Int) + 1) (a := nm_at T) (min k ((h : Int) + 1).toNat)
                generalize nm_mb (nm_mkx X) ((h : Int) + 1) (nm_at T) (min k ((h : Int) + 1).toNat) = v at e4 hin ⊢
                obtain ⟨v1, v2, v3⟩ := h241 v hin.1 (by omega)
                refine h_239_106 hL3 ?_
                rw [v1, am_w_id (x := t v + 1) (by omega) (by omega)]
                have F4 : nm_Fr nm_liM M1 (am_st M3 241 v (t v + 1)) := nm_Fr_st F3 (nm_in_c (a := 241) (lo := 0) (hi := 256) (by decide +kernel) hin.1 (by omega))
                have hT4 : nm_MTn (am_st M3 241 v (t v + 1)) T := fun q x y => (nm_st_ne (by decide)).trans (hT q x y)
                refine ⟨hin.1, by omega, fun c => ⟨by omega, nxt _ _ _ F4 hT4 ?_⟩, fun c => ⟨by omega, nxt _ _ _ F4 hT4 ?_⟩⟩
                · rw [e4, if_pos c]
                · rw [e4, if_neg c]
            | cons T2 L ihL =>
              intro T M3 t mx cc l8 hr hl hi F3 hT h241 hc e3
              have B3 := lb F3
              have hL3 := nm_M_L B3.1
              rw [List.length_cons] at hc
              have nxt : ∀ M4 t' mx' l8, nm_Fr nm_liM M1 M4 → nm_MTn M4 T → (∀ v, 0 ≤ v → v < 256 → am_gt M4 241 v = t' v ∧ 0 ≤ t' v ∧ t' v ≤ cc + 1) → al ((h : Int) + 1) = nm_ty X ((h : Int) + 1) (T2 :: L) t' mx' → am_CL (d - 1) 230 [(2, 214), (0, (k : Int)), (0, 0)] M4 (fun r M' => am_WP d am_c239 151 [(2, 214), (0, (k : Int)), (0, w), (0, (nm_bh al h).1), (0, (nm_bh al h).2), (0, (h : Int) + 1), (0, mx'), (0, 1), l8] (r ++ []) M' Q) := by
                intro M4 t' mx' l8 F4 hT4 h4 e4
                have B4 := lb F4
                refine nmm_230n (by omega) (nm_M_L B4.1) (s0 B4) o0.1 o0.2 B4.2.1 hk6 hl hi hT4 (fun r5 => ?_) (fun T' M5 r5 l5 i5 F5 hT5 => ?_)
                · rw [hr] at r5; cases r5
                · rw [hr] at r5
                  obtain ⟨ra, rb⟩ := List.cons.inj r5
                  subst ra
                  have F05 : nm_Fr nm_liM M1 M5 := nm_Fr_trans F4 (nm_Fr_sub F5 (by decide))
                  exact h_239_151 (nm_M_L (lb F05).1) (ihL T2 M5 t' mx' (cc + 1) _ rb.symm l5 i5 F05 hT5 (fun v x y => by rw [nm_gt_frn F5 (nm_M_L B4.1) (by decide) (by decide)]; exact h4 v x y) (by omega) e4)
              refine h_239_86 hL3 ⟨fun c => absurd c (by decide), fun _ => ⟨by omega, nmm_237 (by omega) B3.1 B3.2.2 hT hi hl hk6 ?_⟩⟩
              cases hhd : nm_heard X T
              · refine h_239_96 hL3 ⟨fun _ => ⟨by omega, nxt M3 t mx _ F3 hT (fun v x y => ?_) ?_⟩, fun c => absurd rfl c⟩
                · have := h241 v x y; exact ⟨this.1, this.2.1, by omega⟩
                · rw [e3]; show (if nm_heard X T then _ else _) = _; rw [hhd]; rfl
              · have e4 : al ((h : Int) + 1) = nm_ty X ((h : Int) + 1) (T2 :: L) (nm_up t (nm_mb (nm_mkx X) ((h : Int) + 1) (nm_at T) (min T.length ((h : Int) + 1).toNat)) (t (nm_mb (nm_mkx X) ((h : Int) + 1) (nm_at T) (min T.length ((h : Int) + 1).toNat)) + 1)) (if t (nm_mb (nm_mkx X) ((h : Int) + 1) (nm_at T) (min T.length ((h : Int) + 1).toNat)) + 1 ≤ mx then mx else t (nm_mb (nm_mkx X) ((h : Int) + 1) (nm_at T) (min T.length ((h : Int) + 1).toNat)) + 1) := by
                  rw [e3]; show (if nm_heard X T then _ else _) = _; rw [hhd]; rfl
                rw [hl] at e4
                refine h_239_96 hL3 ⟨fun c => absurd c (by decide), fun _ => ⟨by omega, nmm_236 (X := X) (T := T) (by omega) hL3 o0.2 B3.2.2 hT hi hl hk6 (by omega) (by omega) ?_⟩⟩
                have hin := nm_mb_in (X := X) (h := (h : Int) + 1) (a := nm_at T) (min k ((h : Int) + 1).toNat)
                generalize nm_mb (nm_mkx X) ((h : Int) + 1) (nm_at T) (min k ((h : Int) + 1).toNat) = v at e4 hin ⊢
                obtain ⟨v1, v2, v3⟩ := h241 v hin.1 (by omega)
                refine h_239_106 hL3 ?_
                rw [v1, am_w_id (x := t v + 1) (by omega) (by omega)]
                have F4 : nm_Fr nm_liM M1 (am_st M3 241 v (t v + 1)) := nm_Fr_st F3 (nm_in_c (a := 241) (lo := 0) (hi := 256) (by decide +kernel) hin.1 (by omega))
                have hT4 : nm_MTn (am_st M3 241 v (t v + 1)) T := fun q x y => (nm_st_ne (by decide)).trans (hT q x y)
                have h4 : ∀ v', 0 ≤ v' → v' < 256 → am_gt (am_st M3 241 v (t v + 1)) 241 v' = nm_up t v (t v + 1) v' ∧ 0 ≤ nm_up t v (t v + 1) v' ∧ nm_up t v (t v + 1) v' ≤ cc + 1 := by
                  intro v' x y
                  have z := h241 v' x y
                  unfold nm_up
                  by_cases ev : v' = v
                  · rw [if_pos ev, ev, nm_st_eq]; exact ⟨rfl, by omega, by omega⟩
                  · rw [if_neg ev, nm_st_nj ev]; exact ⟨z.1, z.2.1, by omega⟩
                refine ⟨hin.1, by omega, fun c => ⟨by omega, nxt _ _ _ _ F4 hT4 h4 ?_⟩, fun c => ⟨by omega, nxt _ _ _ _ F4 hT4 h4 ?_⟩⟩
                · rw [e4, if_pos c]
                · rw [e4, if_neg c]
          have zero : ∀ j : Nat, j ≤ 256 → ∀ M3 l7 l8, nm_Fr nm_liM M1 M3 → (∀ v, 0 ≤ v → v < (j : Int) → am_gt M3 241 v = 0) → am_WP d am_c239 53 [(2, 214), (0, (k : Int)), (0, w), (0, (nm_bh al h).1), (0, (nm_bh al h).2), (0, (h : Int) + 1), (0, (j : Int)), l7, l8] [] M3 Q := by
            refine nm_dn ?_
            intro j hj ihj M3 l7 l8 F3 z3
            have B3 := lb F3
            refine h_239_53 (nm_M_L B3.1) ⟨fun c => ⟨by omega, ?_⟩, fun c => ⟨by omega, by omega, ?_⟩⟩
            · refine nmm_230f (by omega) (nm_M_L B3.1) (s0 B3) o0.1 o0.2 B3.2.1 hk6 (fun g4 M4 F4 => ?_) (fun T' M4 g4 l4 i4 F4 hT4 => ?_)
              · have F04 : nm_Fr nm_liM M1 M4 := nm_Fr_trans F3 (nm_Fr_sub F4 (by decide))
                exact h_239_84 (nm_M_L (lb F04).1) (nx M4 0 _ F04 (by rw [ealh, g4]; rfl))
              · have F04 : nm_Fr nm_liM M1 M4 := nm_Fr_trans F3 (nm_Fr_sub F4 (by decide))
                rw [g4, List.length_cons] at hgl
                exact h_239_84 (nm_M_L (lb F04).1) (lp _ T' M4 (fun _ => 0) 0 0 _ rfl l4 i4 F04 hT4 (fun v x y => ⟨(nm_gt_frn F4 (nm_M_L B3.1) (by decide) (by decide)).trans (z3 v x (by omega)), Int.le_refl _, Int.le_refl _⟩) (by omega) (by rw [ealh, g4]))
            · rw [nm_wk (by omega)]
              refine ihj (by omega) _ _ _ (nm_Fr_st F3 (nm_in_c (a := 241) (lo := 0) (hi := 256) (by decide +kernel) (by omega) (by omega))) (fun v x y => ?_)
              rw [nm_gt_st]
              by_cases hv : v = (j : Int)
              · rw [if_pos ⟨rfl, hv⟩]
              · rw [if_neg (fun c => hv c.2)]; exact z3 v x (by omega)
          exact zero 0 (Nat.zero_le _) M2 _ _ F2 (fun v x y => absurd y (by omega))
      exact outer 0 (Nat.zero_le _) M1 _ _ _ (nm_Fg_refl _ _)
    · have := q M0 (nm_Fg_refl _ _) hM0
      rw [if_neg (by omega)] at this
      exact h_239_24 hL ⟨fun c => absurd rfl c, fun _ => this⟩
  · have := q M0 (nm_Fg_refl _ _) hM0
    rw [if_neg (by omega)] at this
    exact h_239_14 hL ⟨fun _ => this, fun c => absurd rfl c⟩
