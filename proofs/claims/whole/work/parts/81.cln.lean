/-! LINES, the class: lines -/
theorem nm_vl_nd {cn : Int → Int → Bool} {N : Int} : ∀ {T : List Int}, nm_vl cn N T → T.Nodup
  | [], _ => List.nodup_nil
  | m :: T, h => by
    refine List.nodup_cons.2 ⟨?_, nm_vl_nd h.2.2⟩
    exact nm_at_ne.1 (nm_okm_iff.1 h.2.1).2
theorem nm_gen_long {cn : Int → Int → Bool} {N : Int} {n : Nat} (N0 : 0 ≤ N) (h : N < (n : Int)) : nm_gen cn N n [] = [] := by
  refine List.eq_nil_iff_forall_not_mem.2 (fun T hT => ?_)
  obtain ⟨v, l⟩ := nm_gen0.1 hT
  have := nm_php N.toNat T (nm_vl_nd v) (fun m hm => by have := (nm_vl_at v).1 m hm; omega)
  omega
def nm_sg0 : nm_sg := (0, [], fun _ _ => 0, fun _ => 0)
abbrev nm_w74 : nm_Rg := nm_loC ++ ([(20, 13, 17), (24, 0, 36)] ++ nm_skC)
theorem nmc_74 {d n : Nat} {i z : Int} {X : nm_X} {M : am_M} {Q : List am_V → am_M → Prop} (hd : 14 ≤ d) (hok : nm_ok X) (hC : nm_C M X) (n6 : n ≤ 6) (i0 : -1 ≤ i) (hz : z = 0 ∨ z = 1) (hQ : ∀ M', nm_Fr nm_w74 M M' → nm_MQ M' z (nm_fd2 X i z ((nm_gen (nm_cn X) (nx_S X 0) n []).filter (nm_heard X)) nm_sg0) → Q [(0, (nm_fd2 X i z ((nm_gen (nm_cn X) (nx_S X 0) n []).filter (nm_heard X)) nm_sg0).1)] M') (hQ0 : nm_gen (nm_cn X) (nx_S X 0) n [] = [] → ∀ M', nm_Fr nm_w74 M M' → Q [(0, 0)] M') : am_CL d 74 [(2, 20), (0, (n : Int)), (0, i), (0, z)] M Q := by
  have hO := hC.1.2.2.1
  have o0 := hO.1
  have lay : ∀ {M1}, nm_Fr nm_w74 M M1 → nm_C M1 X := fun F => nm_C_fr hC F (by decide +kernel)
  have ef : (nm_gen (nm_cn X) (nx_S X 0) n []).filter (nm_heard X) = (nm_gen (nm_cn2 X) (nx_S X 0) n []).filter (nm_agp X) := by
    rw [nm_gen_flt hO, show nm_heard X = nm_agp X from funext (nm_heard_agp hO)]
  rw [ef] at hQ
  have F0 : nm_Fr nm_w74 M (am_st M 20 15 0) := nm_Fr_st (nm_Fg_refl _ _) (by decide +kernel)
  refine h_74_0 (nm_C_L hC) ?_
  refine h_74_5 (nm_C_L (lay F0)) ?_
  rw [nm_s0 (lay F0).1.2.1]
  refine ⟨fun hn => ⟨hz, ?_⟩, fun hn => hQ0 (nm_gen_long o0.1 (by omega)) _ F0⟩
  have F1 : nm_Fr nm_w74 M (am_st (am_st (am_st M 20 15 0) 20 14 i) 20 16 z) := nm_Fr_st (nm_Fr_st F0 (by decide +kernel)) (by decide +kernel)
  have a15 : am_gt (am_st (am_st (am_st M 20 15 0) 20 14 i) 20 16 z) 20 15 = 0 := by rw [nm_st_nj (by decide), nm_st_nj (by decide), nm_st_eq]
  have a14 : am_gt (am_st (am_st (am_st M 20 15 0) 20 14 i) 20 16 z) 20 14 = i := by rw [nm_st_nj (by decide), nm_st_eq]
  have a16 : am_gt (am_st (am_st (am_st M 20 15 0) 20 14 i) 20 16 z) 20 16 = z := nm_st_eq
  generalize am_st (am_st (am_st M 20 15 0) 20 14 i) 20 16 z = M1 at F1 a15 a14 a16 ⊢
  have main : ∀ M2, nm_Fr nm_w74 M M2 → am_gt M2 20 14 = i → am_gt M2 20 16 = z → nm_MQ M2 z nm_sg0 → ∀ H, 0 ≤ H → H ≤ 8 → (z ≠ 0 → H = 8) → (∀ k : Nat, (k : Int) < nx_S X 1 → nx_S X (85 + 3 * (k : Int)) ≤ H) → am_WP d am_c74 69 [(2, 20), (0, (n : Int)), (0, i), (0, z)] [(0, H), (0, (n : Int)), (2, 20)] M2 Q := by
    intro M2 F2 b14 b16 q2 H H0 H8 hz8 hH
    have C2 := lay F2
    have hL2 := nm_C_L C2
    refine h_74_69 hL2 ⟨by omega, nmc_81 (by omega) C2 hok n6 H0 H8 (fun M3 F3 t3 => ?_)⟩
    have F03 : nm_Fr nm_w74 M M3 := nm_Fr_trans F2 (nm_Fr_appl F3)
    have C3 := lay F03
    have hL3 := nm_C_L C3
    refine h_74_72 hL3 ⟨by omega, nmc_90 (by omega) C3 n6 t3 hH (fun M4 F4 t4 e4 => ?_)⟩
    have F04 : nm_Fr nm_w74 M M4 := nm_Fr_trans F03 (nm_Fr_sub F4 (by decide +kernel))
    have C4 := lay F04
    have hL4 := nm_C_L C4
    have gl := nm_gen_46 (cn := nm_cn2 X) (N := nx_S X 0) (n := n) (T := []) o0.2 n6
    have c14 : am_gt M4 20 14 = i := ((nm_gt_frd (g := [(20, 14, 15)]) F4 hL3 (by decide) (by decide) (by decide)).trans (nm_gt_frn F3 hL2 (by decide) (by decide))).trans b14
    have c16 : am_gt M4 20 16 = z := ((nm_gt_frd (g := [(20, 16, 17)]) F4 hL3 (by decide) (by decide) (by decide)).trans (nm_gt_frn F3 hL2 (by decide) (by decide))).trans b16
    have q3 := nm_MQ_fr hL2 q2 F3 (by decide) (by decide) (by decide) (by decide)
    have q4 := nm_MQ_fr hL3 q3 F4 (by decide) (by decide) (by decide) (by decide)
    refine h_74_77 hL4 ⟨by omega, ?_⟩
    refine nmc_92 (M := M4) (i := i) (z := z) (H := H) C4 n6 (fun m p a b c e hc h x y => (nm_gt_frn F4 hL3 (by decide) (by decide)).trans ((t3 m p a b c e).2 hc h x y)) hz8 t4 e4 c14 c16 n [] _ M4 nm_sg0 _ (by omega) (by rw [List.length_nil]; omega) trivial (nm_Fg_refl _ _) (fun q a b => by rw [List.length_nil] at b; omega) q4 (by show (0 : Int) + _ ≤ _; omega) (fun x => by have := x.2; have e : nm_sg0.1 = 0 := rfl; omega) (fun M5 F5 t5 q5 => ?_)
    have F05 : nm_Fr nm_w74 M M5 := nm_Fr_trans F04 (nm_Fr_appr (nm_Fr_appr F5))
    refine h_74_85 (nm_C_L (lay F05)) ?_
    rw [q5.1]
    exact hQ M5 F05 q5
  have go51 : ∀ M2, nm_Fr nm_w74 M M2 → am_gt M2 20 14 = i → am_gt M2 20 16 = z → nm_MQ M2 z nm_sg0 → am_WP d am_c74 51 [(2, 20), (0, (n : Int)), (0, i), (0, z)] [] M2 Q := by
    intro M2 F2 b14 b16 q2
    refine h_74_51 (nm_C_L (lay F2)) ?_
    rw [b16]
    refine ⟨fun c => ⟨by omega, nmc_89 (by omega) (lay F2) (fun r r0 r8 hr => main M2 F2 b14 b16 q2 r r0 r8 (fun nz => absurd c nz) hr)⟩, fun c => main M2 F2 b14 b16 q2 8 (by decide) (by decide) (fun _ => rfl) (fun k hk => ?_)⟩
    exact (hO.2.2.2.2.2.2.2.2.2.2.2.2 (k : Int) (by omega) hk).1.2
  refine ⟨fun c => go51 M1 F1 a14 a16 ⟨a15, Int.le_refl 0, fun q a b => ?_, Nat.zero_le _, fun nz => absurd c nz⟩, fun c => ⟨by omega, ?_⟩⟩
  · rw [show nm_sg0.2.1 = [] from rfl, List.length_nil] at b; omega
  · have hL1 := nm_C_L (lay F1)
    refine nmc_264 28 2048 (by decide) (by decide) (by decide +kernel) (by decide) (by decide) hL1 (by decide +kernel) (fun M2 F2 e2 => ?_)
    have F02 : nm_Fr nm_w74 M M2 := nm_Fr_trans F1 (nm_Fr_sub F2 (by decide +kernel))
    have hL2 := nm_C_L (lay F02)
    refine h_74_43 hL2 ⟨by omega, nmc_264 29 8 (by decide) (by decide) (by decide +kernel) (by decide) (by decide) hL2 (by decide +kernel) (fun M3 F3 e3 => ?_)⟩
    have F03 : nm_Fr nm_w74 M M3 := nm_Fr_trans F02 (nm_Fr_sub F3 (by decide +kernel))
    have k20 : ∀ j, am_gt M3 20 j = am_gt M1 20 j := fun j => (nm_gt_frn F3 hL2 (by decide) (by decide)).trans (nm_gt_frn F2 hL1 (by decide) (by decide))
    refine go51 M3 F03 ((k20 14).trans a14) ((k20 16).trans a16) ⟨(k20 15).trans a15, Int.le_refl 0, fun q a b => ?_, Nat.zero_le _, fun nz h x y => ⟨e3 _ (by omega) (by omega), fun v v0 v1 => ⟨?_, Int.le_refl 0, Int.le_refl 0⟩⟩⟩
    · rw [show nm_sg0.2.1 = [] from rfl, List.length_nil] at b; omega
    · rw [nm_gt_frn F3 hL2 (by decide) (by decide)]; exact e2 _ (by omega) (by omega)
/-- the pick -/
theorem nm_pk_flt {hd : List Int → Bool} {i w : Int} : ∀ {L : List (List Int)} {c v : Int}, nm_pk hd i w L c v = nm_pk (fun _ => true) i w (L.filter hd) c v
  | [], _, _ => rfl
  | T :: L, c, v => by
    show (if hd T then _ else _) = _
    cases h : hd T
    · rw [if_neg (by decide), List.filter_cons_of_neg (by rw [h]; decide)]; exact nm_pk_flt
    · rw [if_pos rfl, List.filter_cons_of_pos h]
      show _ = (if true = true then _ else _)
      rw [if_pos rfl]; exact nm_pk_flt
theorem nm_pk_c (i w : Int) (T : List Int) (L : List (List Int)) (c v : Int) : nm_pk (fun _ => true) i w (T :: L) c v = nm_pk (fun _ => true) i w L (c + 1) (if c = i ∧ 0 ≤ w ∧ w ≤ (T.length : Int) - 1 then nm_at T w else v) := rfl
theorem nm_pk_cnt {i w : Int} : ∀ {F : List (List Int)} {c v : Int}, (nm_pk (fun _ => true) i w F c v).1 = c + (F.length : Int)
  | [], c, v => by rw [List.length_nil]; show c = _; omega
  | T :: F, c, v => by
    rw [nm_pk_c, nm_pk_cnt, List.length_cons]; omega
theorem nm_pk_keep {i w : Int} : ∀ {F : List (List Int)} {c v : Int}, i < c → (nm_pk (fun _ => true) i w F c v).2 = v
  | [], c, v, _ => rfl
  | T :: F, c, v, h => by
    rw [nm_pk_c, if_neg (fun z => by omega)]
    exact nm_pk_keep (by omega)
theorem nm_pk_w {i w : Int} {n : Nat} (hw : ¬ (0 ≤ w ∧ w ≤ (n : Int) - 1)) : ∀ {F : List (List Int)} {c v : Int}, (∀ T ∈ F, T.length = n) → (nm_pk (fun _ => true) i w F c v).2 = v
  | [], c, v, _ => rfl
  | T :: F, c, v, h => by
    rw [nm_pk_c, if_neg (fun z => hw (by rw [← h T List.mem_cons_self]; exact z.2))]
    exact nm_pk_w hw (fun U hU => h U (List.mem_cons_of_mem _ hU))
theorem nm_fd2_cnt {X : nm_X} {z : Int} : ∀ {F : List (List Int)} {s : nm_sg}, (nm_fd2 X (-1) z F s).1 = s.1 + (F.length : Int)
  | [], s => by rw [List.length_nil]; show s.1 = _; omega
  | T :: F, s => by
    show (if (-1 : Int) ≠ -1 ∧ _ then s else nm_fd2 X (-1) z F (nm_sl X (-1) z T s)).1 = _
    rw [if_neg (fun c => c.1 rfl), nm_fd2_cnt, List.length_cons]
    show s.1 + 1 + _ = _
    omega
theorem nm_fd2_pk {X : nm_X} {i w z : Int} (ni : i ≠ -1) : ∀ {F : List (List Int)} {s : nm_sg} {v : Int}, s.1 ≤ i → (i < (nm_fd2 X i z F s).1 → (nm_fd2 X i z F s).2.1 ∈ F ∧ (nm_pk (fun _ => true) i w F s.1 v).2 = if 0 ≤ w ∧ w ≤ ((nm_fd2 X i z F s).2.1.length : Int) - 1 then nm_at (nm_fd2 X i z F s).2.1 w else v) ∧ (¬ i < (nm_fd2 X i z F s).1 → (nm_pk (fun _ => true) i w F s.1 v).2 = v)
  | [], s, v, h => ⟨fun c => absurd (show i < s.1 from c) (by omega), fun _ => rfl⟩
  | T :: F, s, v, h => by
    have e : nm_fd2 X i z (T :: F) s = nm_fd2 X i z F (nm_sl X i z T s) := if_neg (fun c => by omega)
    have e1 : (nm_sl X i z T s).1 = s.1 + 1 := rfl
    rw [e, nm_pk_c]
    by_cases c : s.1 = i
    · have st : i ≠ -1 ∧ i < (nm_sl X i z T s).1 := ⟨ni, by omega⟩
      have e2 : (nm_sl X i z T s).2.1 = T := if_pos c
      rw [nm_fd2_stop st, nm_pk_keep (by omega), e2]
      refine ⟨fun _ => ⟨List.mem_cons_self, ?_⟩, fun x => absurd st.2 x⟩
      by_cases hw : 0 ≤ w ∧ w ≤ (T.length : Int) - 1
      · rw [if_pos ⟨c, hw⟩, if_pos hw]
      · rw [if_neg (fun z => hw z.2), if_neg hw]
    · have := nm_fd2_pk (X := X) (z := z) (w := w) ni (F := F) (s := nm_sl X i z T s) (v := v) (by omega)
      rw [if_neg (fun z => c z.1), ← e1]
      exact ⟨fun x => ⟨List.mem_cons_of_mem _ (this.1 x).1, (this.1 x).2⟩, this.2⟩
theorem nmp_28 {d : Nat} {n i w : Int} {X : nm_X} {M : am_M} {Q : List am_V → am_M → Prop} (hd : 16 ≤ d) (hC : nm_C M X) (hok : nm_ok X) (hQ : nm_KC (sp_28 X n i w).1 [(0, (sp_28 X n i w).2)] M Q) : am_CL d 28 [(2, 0), (0, n), (0, i), (0, w)] M Q := by
  have hL := nm_C_L hC
  have o0 := hC.1.2.2.1.1
  have q := hQ M nm_cR hC
  unfold sp_28 at hQ q
  simp only at hQ q
  by_cases hn : 0 ≤ n ∧ n ≤ 6
  · rw [if_pos hn, nm_pk_flt] at hQ q
    obtain ⟨k, rfl⟩ : ∃ k : Nat, n = (k : Int) := ⟨n.toNat, by omega⟩
    rw [show ((k : Int)).toNat = k by omega] at hQ q
    have hlen : ∀ T ∈ (nm_gen (nm_cn X) (nx_S X 0) k []).filter (nm_heard X), T.length = k := fun T hT => (nm_gen0.1 (List.mem_filter.1 hT).1).2
    have q' : i < -1 ∨ (i ≠ -1 ∧ ¬ (0 ≤ w ∧ w ≤ (k : Int) - 1)) → Q [(0, -1)] M := by
      intro h
      rw [if_neg (by omega)] at q
      rcases h with h | h
      · rw [nm_pk_keep (by omega)] at q; exact q
      · rw [nm_pk_w h.2 hlen] at q; exact q
    refine h_28_0 hL ⟨fun c => absurd c (by omega), fun _ => ⟨fun c => absurd c (by omega), fun _ => ⟨fun hi => ⟨fun ni => ⟨fun c => q' (.inr ⟨ni, by omega⟩), fun c => ⟨fun c' => ⟨by omega, ?_⟩, fun c' => q' (.inr ⟨ni, by omega⟩)⟩⟩, fun ni => ⟨by omega, ?_⟩⟩, fun hi => q' (.inl (by omega))⟩⟩⟩
    · rw [if_neg ni] at hQ
      refine nmc_74 (by omega) hok hC (by omega) (by omega) (.inl rfl) (fun M1 F1 q1 => ?_) (fun g0 M1 F1 => ?_)
      · have C1 := nm_C_fr hC F1 (by decide +kernel)
        have r := hQ M1 (nm_cF F1 (by decide +kernel)) C1
        have P := nm_fd2_pk (X := X) (z := 0) (w := w) ni (F := (nm_gen (nm_cn X) (nx_S X 0) k []).filter (nm_heard X)) (s := nm_sg0) (v := -1) (show (0 : Int) ≤ i by omega)
        rw [show nm_sg0.1 = 0 from rfl] at P
        refine h_28_54 (nm_C_L C1) ⟨fun h => ?_, fun h => ⟨by omega, by omega, ?_⟩⟩
        · rw [P.2 (by omega)] at r; exact r
        · have P1 := P.1 (by omega)
          have l1 := hlen _ P1.1
          rw [P1.2, if_pos (by omega)] at r
          rw [q1.2.2.1 w (by omega) (by omega)]; exact r
      · have C1 := nm_C_fr hC F1 (by decide +kernel)
        have r := hQ M1 (nm_cF F1 (by decide +kernel)) C1
        rw [g0] at r
        exact h_28_54 (nm_C_L C1) ⟨fun h => r, fun h => absurd (by omega) h⟩
    · have ei : i = -1 := Decidable.of_not_not ni
      subst ei
      rw [if_pos rfl, nm_pk_cnt] at hQ
      refine nmc_74 (by omega) hok hC (by omega) (by omega) (.inl rfl) (fun M1 F1 q1 => ?_) (fun g0 M1 F1 => ?_)
      · have C1 := nm_C_fr hC F1 (by decide +kernel)
        have r := hQ M1 (nm_cF F1 (by decide +kernel)) C1
        rw [nm_fd2_cnt]
        exact h_28_32 (nm_C_L C1) r
      · have C1 := nm_C_fr hC F1 (by decide +kernel)
        have r := hQ M1 (nm_cF F1 (by decide +kernel)) C1
        rw [g0] at r
        exact h_28_32 (nm_C_L C1) r
  · rw [if_neg hn] at q
    exact h_28_0 hL ⟨fun _ => q, fun c => ⟨fun _ => q, fun c' => absurd (by omega) hn⟩⟩
