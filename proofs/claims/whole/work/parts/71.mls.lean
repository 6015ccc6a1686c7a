/-! LINES, the reference -/
def nm_LB (M : am_M) (X : nm_X) : Prop := nm_M M X ∧ nm_T238 M (nx_S X 0) (nm_cn X) ∧ nm_T237 M (nx_S X 0) (nm_mkx X)
theorem nm_LB_fr {f : nm_Rg} {M M' : am_M} {X : nm_X} (hok : nm_ok X) (h : nm_LB M X) (F : nm_Fr f M M') (h1 : nm_mok f = true) (h2 : nm_no f 237 = true) (h3 : nm_no f 238 = true) : nm_LB M' X :=
  ⟨nm_M_fr hok h.1 F h1, fun m p a b c e => (nm_gt_frn F (nm_M_L h.1) (by decide) h3).trans (h.2.1 m p a b c e), fun m p i a b c e f g => (nm_gt_frn F (nm_M_L h.1) (by decide) h2).trans (h.2.2 m p i a b c e f g)⟩
theorem nm_MTn_fr {f : nm_Rg} {M M' : am_M} {T : List Int} (hL : nm_Lay M) (h : nm_MTn M T) (F : nm_Fr f M M') (h1 : nm_no f 239 = true) : nm_MTn M' T := fun q a b => (nm_gt_frn F hL (by decide) h1).trans (h q a b)
/-- all lines of the lengths n, n + 1, …, k of them -/
def nm_gs (cn : Int → Int → Bool) (N : Int) : Nat → Nat → List (List Int)
  | 0, _ => []
  | k + 1, n => nm_gen cn N n [] ++ nm_gs cn N k (n + 1)
def nm_mn (f : List Int → Int) (b : Int) : List (List Int) → Int
  | [] => b
  | T :: L => nm_mn f (if b ≤ f T then b else f T) L
theorem nm_mn_app {f : List Int → Int} : ∀ {l1 l2 : List (List Int)} {b : Int}, nm_mn f b (l1 ++ l2) = nm_mn f (nm_mn f b l1) l2
  | [], _, _ => rfl
  | T :: l1, l2, b => by
    show nm_mn f _ (l1 ++ l2) = nm_mn f (nm_mn f _ l1) l2
    exact nm_mn_app
/-- how far a line is from the clock at the hour H -/
def nm_ofl (X : nm_X) (H : Int) (T : List Int) : Int := nm_off (fun q => nx_S X (77 + q)) (nm_ms (nm_mkx X) H (nm_at T) T.length)
def sp_25 (X : nm_X) (H : Int) : nm_X × Int := (X, if 1 ≤ H ∧ H ≤ 8 then nm_mn (nm_ofl X H) 100000000 (nm_gs (nm_cn X) (nx_S X 0) ((nx_S X 0).toNat + 1) 0) else -1)
abbrev nm_neM : nm_Rg := [(235, 0, 8), (239, 0, 7)]
theorem nmq_25 {d : Nat} {H : Int} {X : nm_X} {M : am_M} {Q : List am_V → am_M → Prop} (hd : 12 ≤ d) (hok : nm_ok X) (hM : nm_M M X) (hQ : nm_KM (sp_25 X H).1 [(0, (sp_25 X H).2)] M Q) : am_CL d 233 [(2, 214), (0, H)] M Q := by
  have F0 := nm_m0F (M := M)
  have hM0 := nm_m0 hok hM
  have hL := nm_M_L hM0
  refine h_233_0 (nm_M_L hM) ?_
  generalize am_st M 214 0 0 = M0 at F0 hM0 hL ⊢
  have o0 := hM0.1.2.2.2.1.1
  have q := fun M' (F : nm_Fr nm_mAll M0 M') => hQ M' (nm_Fr_trans F0 F)
  unfold sp_25 at q
  simp only at q
  refine ⟨by omega, nmm_156 (by omega) hL (fun a b => ?_) (fun h => ?_)⟩
  · rw [if_pos ⟨a, b⟩] at q
    refine h_233_9 hL ⟨fun _ => ⟨by omega, nmm_228 (by omega) hok hM0 (fun M1 F1 t1 t2 => ?_)⟩, fun c => absurd (by decide) c⟩
    have B1 : nm_LB M1 X := ⟨nm_M_fr hok hM0 F1 (by decide +kernel), t1, t2⟩
    have q1 := fun M' (F : nm_Fr nm_neM M1 M') => q M' (nm_Fr_trans (nm_mF F1 (by decide +kernel)) (nm_mF F (by decide +kernel)))
    have lb : ∀ {M2}, nm_Fr nm_neM M1 M2 → nm_LB M2 X := fun F => nm_LB_fr hok B1 F (by decide +kernel) (by decide) (by decide)
    have s0 : ∀ {M2}, nm_LB M2 X → am_gt M2 216 0 = nx_S X 0 := fun h => h.1.1.2.1 0 (.inl ⟨by decide, by decide⟩)
    refine h_233_18 (nm_M_L B1.1) ?_
    have outer : ∀ n : Nat, n ≤ (nx_S X 0).toNat + 1 → ∀ M2 x2 l4 l5, nm_Fr nm_neM M1 M2 → nm_mn (nm_ofl X H) 100000000 (nm_gs (nm_cn X) (nx_S X 0) ((nx_S X 0).toNat + 1) 0) = nm_mn (nm_ofl X H) x2 (nm_gs (nm_cn X) (nx_S X 0) ((nx_S X 0).toNat + 1 - n) n) → am_WP d am_c233 24 [(2, 214), (0, H), (0, x2), (0, (n : Int)), l4, l5] [] M2 Q := by
      refine nm_dn ?_
      intro n hn ih M2 x2 l4 l5 F2 e2
      have B2 := lb F2
      refine h_233_24 (nm_M_L B2.1) ?_
      rw [s0 B2]
      refine ⟨fun h => ?_, fun h => ⟨by omega, ?_⟩⟩
      · rw [show (nx_S X 0).toNat + 1 - n = 0 by omega] at e2
        have := q1 M2 F2 B2.1
        rw [e2] at this
        exact this
      · have hn6 : n ≤ 6 := by omega
        rw [show (nx_S X 0).toNat + 1 - n = ((nx_S X 0).toNat + 1 - (n + 1)) + 1 by omega] at e2
        rw [show nm_gs (nm_cn X) (nx_S X 0) (((nx_S X 0).toNat + 1 - (n + 1)) + 1) n = nm_gen (nm_cn X) (nx_S X 0) n [] ++ nm_gs (nm_cn X) (nx_S X 0) ((nx_S X 0).toNat + 1 - (n + 1)) (n + 1) from rfl, nm_mn_app] at e2
        have nx : ∀ M3 x2' l5, nm_Fr nm_neM M1 M3 → x2' = nm_mn (nm_ofl X H) x2 (nm_gen (nm_cn X) (nx_S X 0) n []) → am_WP d am_c233 42 [(2, 214), (0, H), (0, x2'), (0, (n : Int)), (0, 0), l5] [] M3 Q := by
          intro M3 x2' l5 F3 e3
          refine h_233_42 (nm_M_L (lb F3).1) ⟨fun _ => ?_, fun c => absurd rfl c⟩
          rw [nm_wk (by omega)]
          exact ih (by omega) M3 x2' _ _ F3 (by rw [e2, e3])
        have lp : ∀ (L : List (List Int)) (T : List Int) M3 y l5, nm_rst (nm_cn X) (nx_S X 0) n T = L → T.length = n → nm_inN (nx_S X 0) T → nm_Fr nm_neM M1 M3 → nm_MTn M3 T → nm_mn (nm_ofl X H) y (T :: L) = nm_mn (nm_ofl X H) x2 (nm_gen (nm_cn X) (nx_S X 0) n []) → am_WP d am_c233 42 [(2, 214), (0, H), (0, y), (0, (n : Int)), (0, 1), l5] [] M3 Q := by
          intro L
          induction L with
          | nil =>
            intro T M3 y l5 hr hl hi F3 hT e3
            have B3 := lb F3
            refine h_233_42 (nm_M_L B3.1) ⟨fun c => absurd c (by decide), fun _ => ⟨by omega, nmm_231 (T := T) (by omega) hok B3.1 B3.2.2 hT hi hl hn6 a b (fun M4 F4 => ?_)⟩⟩
            have F04 : nm_Fr nm_neM M1 M4 := nm_Fr_trans F3 (nm_Fr_sub F4 (by decide))
            have B4 := lb F04
            have hT4 := nm_MTn_fr (nm_M_L B3.1) hT F4 (by decide)
            have eo : nm_off (fun q => nx_S X (77 + q)) (nm_ms (nm_mkx X) H (nm_at T) n) = nm_ofl X H T := by unfold nm_ofl; rw [hl]
            rw [eo]
            refine h_233_53 (nm_M_L B4.1) ⟨fun c => ⟨by omega, nmm_230n (by omega) (nm_M_L B4.1) (s0 B4) o0.1 o0.2 B4.2.1 hn6 hl hi hT4 (fun _ M5 F5 => ?_) (fun T' M5 r5 => ?_)⟩, fun c => ⟨by omega, nmm_230n (by omega) (nm_M_L B4.1) (s0 B4) o0.1 o0.2 B4.2.1 hn6 hl hi hT4 (fun _ M5 F5 => ?_) (fun T' M5 r5 => ?_)⟩⟩
            · have F05 : nm_Fr nm_neM M1 M5 := nm_Fr_trans F04 (nm_Fr_sub F5 (by decide))
              refine h_233_74 (nm_M_L (lb F05).1) (nx M5 y _ F05 ?_)
              rw [← e3]; show y = (if y ≤ nm_ofl X H T then y else nm_ofl X H T); rw [if_pos c]
            · rw [hr] at r5; cases r5
            · have F05 : nm_Fr nm_neM M1 M5 := nm_Fr_trans F04 (nm_Fr_sub F5 (by decide))
              refine h_233_74 (nm_M_L (lb F05).1) (nx M5 _ _ F05 ?_)
              rw [← e3]; show _ = (if y ≤ nm_ofl X H T then y else nm_ofl X H T); rw [if_neg c]
            · rw [hr] at r5; cases r5
          | cons T2 L ihL =>
            intro T M3 y l5 hr hl hi F3 hT e3
            have B3 := lb F3
            refine h_233_42 (nm_M_L B3.1) ⟨fun c => absurd c (by decide), fun _ => ⟨by omega, nmm_231 (T := T) (by omega) hok B3.1 B3.2.2 hT hi hl hn6 a b (fun M4 F4 => ?_)⟩⟩
            have F04 : nm_Fr nm_neM M1 M4 := nm_Fr_trans F3 (nm_Fr_sub F4 (by decide))
            have B4 := lb F04
            have hT4 := nm_MTn_fr (nm_M_L B3.1) hT F4 (by decide)
            have eo : nm_off (fun q => nx_S X (77 + q)) (nm_ms (nm_mkx X) H (nm_at T) n) = nm_ofl X H T := by unfold nm_ofl; rw [hl]
            rw [eo]
            have e4 : nm_mn (nm_ofl X H) (if y ≤ nm_ofl X H T then y else nm_ofl X H T) (T2 :: L) = nm_mn (nm_ofl X H) x2 (nm_gen (nm_cn X) (nx_S X 0) n []) := e3
            refine h_233_53 (nm_M_L B4.1) ⟨fun c => ⟨by omega, nmm_230n (by omega) (nm_M_L B4.1) (s0 B4) o0.1 o0.2 B4.2.1 hn6 hl hi hT4 (fun r5 => ?_) (fun T' M5 r5 l5 i5 F5 hT5 => ?_)⟩, fun c => ⟨by omega, nmm_230n (by omega) (nm_M_L B4.1) (s0 B4) o0.1 o0.2 B4.2.1 hn6 hl hi hT4 (fun r5 => ?_) (fun T' M5 r5 l5 i5 F5 hT5 => ?_)⟩⟩
            · rw [hr] at r5; cases r5
            · rw [hr] at r5
              obtain ⟨ra, rb⟩ := List.cons.inj r5
              subst ra
              have F05 : nm_Fr nm_neM M1 M5 := nm_Fr_trans F04 (nm_Fr_sub F5 (by decide))
              rw [if_pos c] at e4
              exact h_233_74 (nm_M_L (lb F05).1) (ihL T2 M5 _ _ rb.symm l5 i5 F05 hT5 e4)
            · rw [hr] at r5; cases r5
            · rw [hr] at r5
              obtain ⟨ra, rb⟩ := List.cons.inj r5
              subst ra
              have F05 : nm_Fr nm_neM M1 M5 := nm_Fr_trans F04 (nm_Fr_sub F5 (by decide))
              rw [if_neg c] at e4
              exact h_233_74 (nm_M_L (lb F05).1) (ihL T2 M5 _ _ rb.symm l5 i5 F05 hT5 e4)
        refine nmm_230f (by omega) (nm_M_L B2.1) (s0 B2) o0.1 o0.2 B2.2.1 hn6 (fun g3 M3 F3 => ?_) (fun T' M3 g3 l3 i3 F3 hT3 => ?_)
        · have F03 : nm_Fr nm_neM M1 M3 := nm_Fr_trans F2 (nm_Fr_sub F3 (by decide))
          exact h_233_40 (nm_M_L (lb F03).1) (nx M3 x2 _ F03 (by rw [g3]; rfl))
        · have F03 : nm_Fr nm_neM M1 M3 := nm_Fr_trans F2 (nm_Fr_sub F3 (by decide))
          exact h_233_40 (nm_M_L (lb F03).1) (lp _ T' M3 x2 _ rfl l3 i3 F03 hT3 (by rw [g3]))
    exact outer 0 (Nat.zero_le _) M1 _ _ _ (nm_Fg_refl _ _) rfl
  · have := q M0 (nm_Fg_refl _ _) hM0
    rw [if_neg (by omega)] at this
    exact h_233_9 hL ⟨fun c => absurd rfl c, fun _ => this⟩
/-! lines -/
theorem nm_chl_len {ok : Int → Bool} {g : Int → List (List Int)} {N : Int} {b : Nat} (h : ∀ m, (g m).length ≤ b) : ∀ k : Nat, (nm_chl ok g N k).length ≤ k * b
  | 0 => Nat.zero_le _
  | k + 1 => by
    show ((if ok (N - 1 - (k : Int)) then g (N - 1 - (k : Int)) else []) ++ nm_chl ok g N k).length ≤ _
    rw [List.length_append, Nat.succ_mul]
    have h1 := nm_chl_len (ok := ok) (N := N) h k
    have h2 := h (N - 1 - (k : Int))
    split
    · omega
    · rw [List.length_nil]; omega
theorem nm_gen_len {cn : Int → Int → Bool} {N : Int} (N6 : N ≤ 6) : ∀ (r : Nat) (T : List Int), (nm_gen cn N r T).length ≤ 6 ^ r
  | 0, _ => Nat.le_refl _
  | r + 1, T => by
    have := nm_chl_len (ok := nm_okm cn T) (N := N) (g := fun m => nm_gen cn N r (m :: T)) (fun m => nm_gen_len N6 r (m :: T)) N.toNat
    show (nm_chl (nm_okm cn T) (fun m => nm_gen cn N r (m :: T)) N N.toNat).length ≤ _
    refine Nat.le_trans this ?_
    rw [Nat.pow_succ, Nat.mul_comm (6 ^ r)]
    exact Nat.mul_le_mul_right _ (by omega)
theorem nm_gen_46 {cn : Int → Int → Bool} {N : Int} {n : Nat} (N6 : N ≤ 6) (n6 : n ≤ 6) {T : List Int} : (nm_gen cn N n T).length ≤ 46656 :=
  Nat.le_trans (nm_gen_len N6 n T) (Nat.le_trans (Nat.pow_le_pow_right (by decide) n6) (by decide))
/-- how many of the lines are heard, and the place w of the i-th -/
def nm_pk (hd : List Int → Bool) (i w : Int) : List (List Int) → Int → Int → Int × Int
  | [], c, v => (c, v)
  | T :: L, c, v => if hd T then nm_pk hd i w L (c + 1) (if c = i ∧ 0 ≤ w ∧ w ≤ (T.length : Int) - 1 then nm_at T w else v) else nm_pk hd i w L c v
def sp_28 (X : nm_X) (n i w : Int) : nm_X × Int := (X, if 0 ≤ n ∧ n ≤ 6 then (if i = -1 then (nm_pk (nm_heard X) i w (nm_gen (nm_cn X) (nx_S X 0) n.toNat []) 0 (-1)).1 else (nm_pk (nm_heard X) i w (nm_gen (nm_cn X) (nx_S X 0) n.toNat []) 0 (-1)).2) else -1)
theorem nmq_28 {d : Nat} {n i w : Int} {X : nm_X} {M : am_M} {Q : List am_V → am_M → Prop} (hd : 12 ≤ d) (hw : am_i32 w) (hok : nm_ok X) (hM : nm_M M X) (hQ : nm_KM (sp_28 X n i w).1 [(0, (sp_28 X n i w).2)] M Q) : am_CL d 238 [(2, 214), (0, n), (0, i), (0, w)] M Q := by
  have F0 := nm_m0F (M := M)
  have hM0 := nm_m0 hok hM
  have hL := nm_M_L hM0
  refine h_238_0 (nm_M_L hM) ?_
  generalize am_st M 214 0 0 = M0 at F0 hM0 hL ⊢
  have o0 := hM0.1.2.2.2.1.1
  have q := fun M' (F : nm_Fr nm_mAll M0 M') => hQ M' (nm_Fr_trans F0 F)
  unfold sp_28 at q
  simp only at q
  refine ⟨by omega, nmm_142 hL (fun a b => ?_) (fun h => ?_)⟩
  · rw [if_pos ⟨a, b⟩] at q
    obtain ⟨k, rfl⟩ : ∃ k : Nat, n = (k : Int) := ⟨n.toNat, by omega⟩
    rw [show ((k : Int)).toNat = k by omega] at q
    have hk6 : k ≤ 6 := by omega
    refine h_238_14 hL ⟨fun _ => ⟨by omega, nmm_228 (by omega) hok hM0 (fun M1 F1 t1 t2 => ?_)⟩, fun c => absurd (by decide) c⟩
    have B1 : nm_LB M1 X := ⟨nm_M_fr hok hM0 F1 (by decide +kernel), t1, t2⟩
    have q1 := fun M' (F : nm_Fr nm_nl M1 M') => q M' (nm_Fr_trans (nm_mF F1 (by decide +kernel)) (nm_mF F (by decide +kernel)))
    have lb : ∀ {M2}, nm_Fr nm_nl M1 M2 → nm_LB M2 X := fun F => nm_LB_fr hok B1 F (by decide +kernel) (by decide) (by decide)
    have s0 : ∀ {M2}, nm_LB M2 X → am_gt M2 216 0 = nx_S X 0 := fun h => h.1.1.2.1 0 (.inl ⟨by decide, by decide⟩)
    have fin : ∀ M2 c v, nm_Fr nm_nl M1 M2 → nm_pk (nm_heard X) i w (nm_gen (nm_cn X) (nx_S X 0) k []) 0 (-1) = (c, v) → am_WP d am_c238 37 [(2, 214), (0, (k : Int)), (0, i), (0, w), (0, c), (0, v), (0, 0)] [] M2 Q := by
      intro M2 c v F2 e2
      have := q1 M2 F2 (lb F2).1
      rw [e2] at this
      refine h_238_37 (nm_M_L (lb F2).1) ⟨fun _ => ⟨fun h => ?_, fun h => ?_⟩, fun c => absurd rfl c⟩
      · rw [if_neg h] at this; exact this
      · rw [if_pos (Decidable.of_not_not h)] at this; exact this
    have lp : ∀ (L : List (List Int)) (T : List Int) M3 c v, nm_rst (nm_cn X) (nx_S X 0) k T = L → T.length = k → nm_inN (nx_S X 0) T → nm_Fr nm_nl M1 M3 → nm_MTn M3 T → 0 ≤ c → c + (L.length : Int) ≤ 50000 → nm_pk (nm_heard X) i w (nm_gen (nm_cn X) (nx_S X 0) k []) 0 (-1) = nm_pk (nm_heard X) i w (T :: L) c v → am_WP d am_c238 37 [(2, 214), (0, (k : Int)), (0, i), (0, w), (0, c), (0, v), (0, 1)] [] M3 Q := by
      intro L
      induction L with
      | nil =>
        intro T M3 c v hr hl hi F3 hT c0 c1 e3
        have B3 := lb F3
        have hL3 := nm_M_L B3.1
        have nxt : ∀ c' v', nm_pk (nm_heard X) i w (nm_gen (nm_cn X) (nx_S X 0) k []) 0 (-1) = (c', v') → am_CL (d - 1) 230 [(2, 214), (0, (k : Int)), (0, 0)] M3 (fun r M' => am_WP d am_c238 91 [(2, 214), (0, (k : Int)), (0, i), (0, w), (0, c'), (0, v'), (0, 1)] (r ++ []) M' Q) := by
          intro c' v' e
          refine nmm_230n (by omega) hL3 (s0 B3) o0.1 o0.2 B3.2.1 hk6 hl hi hT (fun _ M5 F5 => ?_) (fun T' M5 r5 => ?_)
          · exact h_238_91 (nm_Lay_fr hL3 F5 (by decide +kernel)) (fin M5 c' v' (nm_Fr_trans F3 F5) e)
          · rw [hr] at r5; cases r5
        refine h_238_37 hL3 ⟨fun c => absurd c (by decide), fun _ => ⟨by omega, nmm_237 (by omega) B3.1 B3.2.2 hT hi hl hk6 ?_⟩⟩
        cases hh : nm_heard X T
        · refine h_238_47 hL3 ⟨fun _ => ⟨by omega, nxt c v ?_⟩, fun c => absurd rfl c⟩
          rw [e3]; show (if nm_heard X T then _ else _) = _; rw [hh]; rfl
        · have e4 : ∀ v', (v' = if c = i ∧ 0 ≤ w ∧ w ≤ (T.length : Int) - 1 then nm_at T w else v) → nm_pk (nm_heard X) i w (nm_gen (nm_cn X) (nx_S X 0) k []) 0 (-1) = (c + 1, v') := by
            intro v' ev
            rw [e3]; show (if nm_heard X T then _ else _) = _; rw [hh, ev]; rfl
          rw [hl] at e4
          refine h_238_47 hL3 ⟨fun c => absurd c (by decide), fun _ => ?_⟩
          rw [am_w_id (x := c + 1) (by omega) (by omega), am_wl_id (x := (k : Int) - 1) (by omega) (by omega)]
          refine ⟨fun h => ⟨by omega, nxt _ _ (e4 v (by rw [if_neg (fun z => h z.1)]))⟩, fun h => ⟨by omega, nmm_142 hL3 (fun w0 w1 => ?_) (fun wn => ?_)⟩⟩
          · refine h_238_66 hL3 ⟨fun c => absurd c (by decide), fun _ => ⟨by omega, by omega, by omega, ?_⟩⟩
            rw [am_w_id (x := c + 1) (by omega) (by omega), hT w w0 (by omega)]
            exact nxt _ _ (e4 _ (by rw [if_pos ⟨Decidable.of_not_not h, w0, w1⟩]))
          · refine h_238_66 hL3 ⟨fun _ => ⟨by omega, ?_⟩, fun c => absurd rfl c⟩
            rw [am_w_id (x := c + 1) (by omega) (by omega)]
            exact nxt _ _ (e4 v (by rw [if_neg (fun z => by omega)]))
      | cons T2 L ihL =>
        intro T M3 c v hr hl hi F3 hT c0 c1 e3
        rw [List.length_cons] at c1
        have B3 := lb F3
        have hL3 := nm_M_L B3.1
        have nxt : ∀ c' v', 0 ≤ c' → c' ≤ c + 1 → nm_pk (nm_heard X) i w (nm_gen (nm_cn X) (nx_S X 0) k []) 0 (-1) = nm_pk (nm_heard X) i w (T2 :: L) c' v' → am_CL (d - 1) 230 [(2, 214), (0, (k : Int)), (0, 0)] M3 (fun r M' => am_WP d am_c238 91 [(2, 214), (0, (k : Int)), (0, i), (0, w), (0, c'), (0, v'), (0, 1)] (r ++ []) M' Q) := by
          intro c' v' z1 z2 e
          refine nmm_230n (by omega) hL3 (s0 B3) o0.1 o0.2 B3.2.1 hk6 hl hi hT (fun r5 => ?_) (fun T' M5 r5 l5 i5 F5 hT5 => ?_)
          · rw [hr] at r5; cases r5
          · rw [hr] at r5
            obtain ⟨ra, rb⟩ := List.cons.inj r5
            subst ra
            exact h_238_91 (nm_Lay_fr hL3 F5 (by decide +kernel)) (ihL T2 M5 c' v' rb.symm l5 i5 (nm_Fr_trans F3 F5) hT5 z1 (by omega) e)
        refine h_238_37 hL3 ⟨fun c => absurd c (by decide), fun _ => ⟨by omega, nmm_237 (by omega) B3.1 B3.2.2 hT hi hl hk6 ?_⟩⟩
        cases hh : nm_heard X T
        · refine h_238_47 hL3 ⟨fun _ => ⟨by omega, nxt c v c0 (by omega) ?_⟩, fun c => absurd rfl c⟩
          rw [e3]; show (if nm_heard X T then _ else _) = _; rw [hh]; rfl
        · have e4 : ∀ v', (v' = if c = i ∧ 0 ≤ w ∧ w ≤ (T.length : Int) - 1 then nm_at T w else v) → nm_pk (nm_heard X) i w (nm_gen (nm_cn X) (nx_S X 0) k []) 0 (-1) = nm_pk (nm_heard X) i w (T2 :: L) (c + 1) v' := by
            intro v' ev
            rw [e3]; show (if nm_heard X T then _ else _) = _; rw [hh, ev]; rfl
          rw [hl] at e4
          refine h_238_47 hL3 ⟨fun c => absurd c (by decide), fun _ => ?_⟩
          rw [am_w_id (x := c + 1) (by omega) (by omega), am_wl_id (x := (k : Int) - 1) (by omega) (by omega)]
          refine ⟨fun h => ⟨by omega, nxt _ _ (by omega) (by omega) (e4 v (by rw [if_neg (fun z => h z.1)]))⟩, fun h => ⟨by omega, nmm_142 hL3 (fun w0 w1 => ?_) (fun wn => ?_)⟩⟩
          · refine h_238_66 hL3 ⟨fun c => absurd c (by decide), fun _ => ⟨by omega, by omega, by omega, ?_⟩⟩
            rw [am_w_id (x := c + 1) (by omega) (by omega), hT w w0 (by omega)]
            exact nxt _ _ (by omega) (by omega) (e4 _ (by rw [if_pos ⟨Decidable.of_not_not h, w0, w1⟩]))
          · refine h_238_66 hL3 ⟨fun _ => ⟨by omega, ?_⟩, fun c => absurd rfl c⟩
            rw [am_w_id (x := c + 1) (by omega) (by omega)]
            exact nxt _ _ (by omega) (by omega) (e4 v (by rw [if_neg (fun z => by omega)]))
    refine h_238_23 (nm_M_L B1.1) ⟨by omega, nmm_230f (by omega) (nm_M_L B1.1) (s0 B1) o0.1 o0.2 B1.2.1 hk6 (fun g3 M3 F3 => ?_) (fun T' M3 g3 l3 i3 F3 hT3 => ?_)⟩
    · exact h_238_35 (nm_M_L (lb F3).1) (fin M3 0 (-1) F3 (by rw [g3]; rfl))
    · have hgl := nm_gen_46 (cn := nm_cn X) (N := nx_S X 0) (n := k) (T := []) o0.2 hk6
      rw [g3, List.length_cons] at hgl
      exact h_238_35 (nm_M_L (lb F3).1) (lp _ T' M3 0 (-1) rfl l3 i3 F3 hT3 (by decide) (by omega) (by rw [g3]))
  · have := q M0 (nm_Fg_refl _ _) hM0
    rw [if_neg (by omega)] at this
    exact h_238_14 hL ⟨fun c => absurd rfl c, fun _ => this⟩
