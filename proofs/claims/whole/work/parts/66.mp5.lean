/-! WAGES, UNIONS, YEARS: the reference's way -/
theorem nm_env_c {S S' : Int → Int} {W : nm_W} {m p h q : Int} (h6 : S' 6 = S 6) (hm : 0 ≤ m → S' (65 + m) = S (65 + m)) : nm_env S' W m p h q = nm_env S W m p h q := by
  funext i
  unfold nm_env
  rw [h6]
  by_cases hm0 : m < 0
  · simp only [if_pos hm0]
  · simp only [if_neg hm0, hm (by omega)]
theorem nm_mk_c {S S' : Int → Int} {W : nm_W} {T : nm_T} {m p h : Int} (hO : nm_okS S) (e : ∀ i, 5 ≤ i → S' i = S i) (m0 : 0 ≤ m) (m1 : m < S 0) (hp : p < h) : nm_mk S' W T m p h = nm_mk S W T m p h := by
  have hat := nm_seen_at hO m0 m1 hp
  have es : nm_seen S' m p h = nm_seen S m p h := by
    unfold nm_seen
    rw [e (29 + m) (by omega)]
    exact e _ (by omega)
  unfold nm_mk nm_made
  rw [es, nm_env_c (e 6 (by omega)) (fun _ => e _ (by omega)), e (65 + m) (by omega)]
theorem nm_all_c {S S' : Int → Int} {W : nm_W} {T : nm_T} {H : Int} (hO : nm_okS S) (oW : nm_okW (S 0) W) (e : ∀ i, 5 ≤ i → S' i = S i) : nm_all S' W T H = nm_all S W T H := by
  have key : ∀ n : Nat, n ≤ W.2.1.length → nm_ps S' W T H n = nm_ps S W T H n := by
    intro n
    induction n with
    | zero => intro _; rfl
    | succ n ih =>
      intro hn
      have hmm := oW.2.2.2.1 _ (nm_getD_mem (show n < W.2.1.length by omega))
      rw [nm_ps_succ, nm_ps_succ, ih (by omega)]
      refine congrArg (nm_ps S W T H n ++ ·) ?_
      unfold nm_hs
      exact List.map_congr_left (fun k _ => nm_mk_c hO e hmm.1 hmm.2 (by omega))
  exact key _ (Nat.le_refl _)
def nm_cs (f : Int → Int) (l : List Int) : Nat → Int
  | 0 => 0
  | k + 1 => nm_cs f l k + (l.count (k : Int) : Int) * f (k : Int)
theorem nm_cs_cons (f : Int → Int) (a : Int) (l : List Int) (a0 : 0 ≤ a) : ∀ k : Nat, nm_cs f (a :: l) k = nm_cs f l k + if a < (k : Int) then f a else 0
  | 0 => by rw [if_neg (by omega)]; rfl
  | k + 1 => by
    show nm_cs f (a :: l) k + ((a :: l).count (k : Int) : Int) * f (k : Int) = nm_cs f l k + (l.count (k : Int) : Int) * f (k : Int) + _
    have hc : ((a :: l).count (k : Int) : Int) = (l.count (k : Int) : Int) + if a = (k : Int) then 1 else 0 := by
      rw [List.count_cons]
      by_cases hk : a = (k : Int)
      · subst hk; simp
      · simp [hk]
    rw [nm_cs_cons f a l a0 k, hc, Int.add_mul]
    by_cases hk : a = (k : Int)
    · rw [if_neg (show ¬ a < (k : Int) by omega), if_pos hk, if_pos (show a < ((k + 1 : Nat) : Int) by omega), hk]; omega
    · rw [if_neg hk]
      by_cases h2 : a < (k : Int)
      · rw [if_pos h2, if_pos (show a < ((k + 1 : Nat) : Int) by omega)]; omega
      · rw [if_neg h2, if_neg (show ¬ a < ((k + 1 : Nat) : Int) by omega)]; omega
theorem nm_cs_8 (f : Int → Int) : ∀ l : List Int, (∀ a ∈ l, 0 ≤ a ∧ a ≤ 7) → nm_cs f l 8 = nm_wsm f l
  | [], _ => by
    have : ∀ k : Nat, nm_cs f [] k = 0 := by
      intro k
      induction k with
      | zero => rfl
      | succ k ih => show nm_cs f [] k + ((0 : Nat) : Int) * f (k : Int) = 0; rw [ih]; omega
    exact this 8
  | a :: l, h => by
    have ha := h a List.mem_cons_self
    rw [nm_cs_cons f a l ha.1, if_pos (by omega), nm_cs_8 f l (fun b hb => h b (List.mem_cons_of_mem _ hb))]
    show _ = f a + nm_wsm f l
    omega
theorem nm_hs_mem {f : Int → Int} {lo : Int} {n : Nat} {a : Int} (h : a ∈ nm_hs f lo n) : ∃ k : Nat, k < n ∧ a = f (lo + (k : Int)) := by
  unfold nm_hs at h
  obtain ⟨k, hk, e⟩ := List.mem_map.mp h
  exact ⟨k, List.mem_range.mp hk, e.symm⟩
theorem nm_all_in {S : Int → Int} {W : nm_W} {T : nm_T} {H a : Int} (h : a ∈ nm_all S W T H) : 0 ≤ a ∧ a ≤ 7 := by
  unfold nm_all nm_ps at h
  obtain ⟨p, -, hp⟩ := List.mem_flatMap.mp h
  obtain ⟨k, -, e⟩ := nm_hs_mem hp
  rw [e]; exact nm_made_in
theorem nm_cs_in {f : Int → Int} (h : ∀ q, 0 ≤ f q ∧ f q ≤ 99) (l : List Int) (hl : l.length ≤ 48) : ∀ k : Nat, k ≤ 8 → 0 ≤ nm_cs f l k ∧ nm_cs f l k ≤ 4752 * (k : Int)
  | 0, _ => ⟨Int.le_refl _, by show (0 : Int) ≤ _; omega⟩
  | k + 1, hk => by
    have h1 := nm_cs_in h l hl k (by omega)
    have h2 := h (k : Int)
    have h3 := List.count_le_length (a := (k : Int)) (l := l)
    have h4 : (l.count (k : Int) : Int) * f (k : Int) ≤ 48 * 99 := Int.mul_le_mul (by omega) h2.2 h2.1 (by omega)
    have h5 : 0 ≤ (l.count (k : Int) : Int) * f (k : Int) := Int.mul_nonneg (by omega) h2.1
    show 0 ≤ nm_cs f l k + _ ∧ nm_cs f l k + _ ≤ _
    omega
theorem nmq_36 {d : Nat} {l : Int} {X : nm_X} {M : am_M} {Q : List am_V → am_M → Prop} (hd : 10 ≤ d) (hok : nm_ok X) (hM : nm_M M X) (hQ : nm_KM (sp_36 X l).1 [(0, (sp_36 X l).2)] M Q) : am_CL d 248 [(2, 214), (0, l)] M Q := by
  have F0 := nm_m0F (M := M)
  have hM0 := nm_m0 hok hM
  have hM1 := hM0
  have hL := nm_M_L hM0
  refine h_248_0 (nm_M_L hM) ⟨by omega, ?_⟩
  generalize am_st M 214 0 0 = M0 at F0 hM0 hM1 hL ⊢
  obtain ⟨m1, m2, m3, m4, m5, m6⟩ := hM1
  have m1' := m1
  obtain ⟨a1, hS, hW, hO, hX, a6⟩ := m1
  have oW : nm_okW (nx_S X 0) (nx_W X) := hok.1.2.2.1
  have o7 := hO.2.2.2.2.2.2.1
  have q := hQ M0 F0 hM0
  unfold sp_36 at hQ q
  simp only at hQ q
  refine nmm_201 (by omega) hL hS hO (fun hl => ?_) (fun hl => ?_)
  · rw [if_pos hl] at hQ
    refine h_248_10 hL ⟨fun _ => ⟨by omega, ?_⟩, fun h => absurd h (by decide)⟩
    rw [hS 3 (by unfold nm_si; omega)]
    have F1 : nm_Fr [(216, 3, 4)] M0 (am_st M0 216 3 l) := nm_Fr_st (nm_Fg_refl _ _) (by decide)
    have o2 := hO.2.2.1
    have hO1 : nm_okS (nm_up (nx_S X) 3 l) := nm_okS_up hO (by omega) (by omega) (by omega) (by omega) (by omega) (by omega) (by omega)
    have hA1 : nm_MA (am_st M0 216 3 l) (nm_up (nx_S X) 3 l) (nx_W X) (nx_D X) := ⟨nm_Lay_fr hL F1 (by decide +kernel), nm_MS_up hS, nm_MW_st hW (by omega), hO1, nm_MX_st hX (by decide) (nm_up_ne (by decide)), by rw [nm_st_ne (by decide)]; exact a6⟩
    have e5 : ∀ i, 5 ≤ i → nm_up (nx_S X) 3 l i = nx_S X i := fun i hi => nm_up_ne (by omega)
    have eT : nm_lwf (nm_up (nx_S X) 3 l) (nx_D X) = nm_lw (nx_S X) (nx_D X) l := by
      show nm_lw (nm_up (nx_S X) 3 l) (nx_D X) (nm_up (nx_S X) 3 l 3) = _
      rw [nm_up_eq]; unfold nm_lw; rw [nm_up_ne (show (2 : Int) ≠ 3 by decide)]
    have oW1 : nm_okW (nm_up (nx_S X) 3 l 0) (nx_W X) := by rw [nm_up_ne (by decide)]; exact oW
    generalize hT : nm_lw (nx_S X) (nx_D X) l = T at hQ eT
    have eP : ∀ x, nm_pay (nm_up (nx_S X) 3 l) (nx_W X) T x = nm_pay (nx_S X) (nx_W X) T x := fun x => by
      unfold nm_pay; rw [nm_env_c (nm_up_ne (by decide)) (fun h => absurd h (by decide))]
    have eAll : nm_all (nm_up (nx_S X) 3 l) (nx_W X) T (nm_up (nx_S X) 3 l 7) = nm_all (nx_S X) (nx_W X) T (nx_S X 7) := by rw [nm_up_ne (show (7 : Int) ≠ 3 by decide)]; exact nm_all_c hO oW e5
    refine nmm_221 (by omega) hA1 oW1 (fun M2 F2 a2 => ?_)
    rw [eT, eAll] at a2
    rw [eT, eAll]
    have hlen := nm_all_len (T := T) o7.2 hW.2.2.1
    have hA2 := nm_MA_fr hA1 F2 (by decide +kernel) (by decide +kernel) (by decide +kernel)
    refine h_248_33 hA2.1 ?_
    have key : ∀ k : Nat, k ≤ 8 → ∀ M3, nm_Fr nm_lgM (am_st M0 216 3 l) M3 → (∀ p, 0 ≤ p → p < 8 → am_gt M3 235 p = ((nm_all (nx_S X) (nx_W X) T (nx_S X 7)).count p : Int)) → am_WP d am_c248 39 [(2, 214), (0, l), (0, nx_S X 3), (0, nm_cs (nm_pay (nx_S X) (nx_W X) T) (nm_all (nx_S X) (nx_W X) T (nx_S X 7)) k), (0, (k : Int))] [] M3 Q := by
      refine nm_dn ?_
      intro k hk ih M3 F3 a3
      have hA3 := nm_MA_fr hA1 F3 (by decide +kernel) (by decide +kernel) (by decide +kernel)
      have hb := nm_cs_in (f := nm_pay (nx_S X) (nx_W X) T) nm_pay_in (nm_all (nx_S X) (nx_W X) T (nx_S X 7)) hlen k (by omega)
      refine h_248_39 hA3.1 ⟨fun h => ?_, fun h => ⟨by omega, by omega, by omega, nm_m210 (by omega) hA3 oW1 (by omega) (fun M4 F4 => ?_)⟩⟩
      · have hk8 : k = 8 := by omega
        subst hk8
        rw [nm_cs_8 _ _ (fun a ha => nm_all_in ha)]
        have F4 : nm_Fr ([(216, 3, 4)] ++ nm_lgM) M0 (am_st M3 216 3 (nx_S X 3)) := nm_Fr_st (nm_Fr_trans (nm_Fr_appl F1) (nm_Fr_appr F3)) (by decide +kernel)
        have hA4 : nm_MA (am_st M3 216 3 (nx_S X 3)) (nx_S X) (nx_W X) (nx_D X) := ⟨nm_Lay_fr hL F4 (by decide +kernel), fun i hi => by
            by_cases h3 : i = 3
            · rw [h3, nm_st_eq]
            · rw [nm_st_nj h3, hA3.2.1 i hi, nm_up_ne h3], nm_MW_st hA3.2.2.1 (by omega), hO, nm_MX_st hA3.2.2.2.2.1 (by decide) (nm_up_ne (by decide)).symm, by rw [nm_st_ne (by decide)]; exact hA3.2.2.2.2.2⟩
        exact hQ _ (nm_Fr_trans F0 (nm_mF F4 (by decide +kernel))) (nm_M_W hok hM0 F4 hA4 (by decide +kernel) (by decide +kernel) (by decide +kernel) (by decide +kernel) (by decide +kernel) (by decide +kernel) (by decide +kernel) (by decide +kernel) (by decide +kernel) (by decide +kernel))
      · rw [eT, eP, a3 _ (by omega) (by omega)]
        have h2 := nm_pay_in (S := nx_S X) (W := nx_W X) (T := T) (k : Int)
        have h3 := List.count_le_length (a := (k : Int)) (l := nm_all (nx_S X) (nx_W X) T (nx_S X 7))
        have h4 : ((nm_all (nx_S X) (nx_W X) T (nx_S X 7)).count (k : Int) : Int) * nm_pay (nx_S X) (nx_W X) T (k : Int) ≤ 48 * 99 := Int.mul_le_mul (by omega) h2.2 h2.1 (by omega)
        have h5 : 0 ≤ ((nm_all (nx_S X) (nx_W X) T (nx_S X 7)).count (k : Int) : Int) * nm_pay (nx_S X) (nx_W X) T (k : Int) := Int.mul_nonneg (by omega) h2.1
        refine h_248_60 (nm_Lay_fr hA3.1 F4 (by decide +kernel)) ?_
        rw [am_w_id (x := _ * _) (by omega) (by omega), am_w_id (x := _ + _) (by omega) (by omega), nm_wk (by omega)]
        exact ih (by omega) M4 (nm_Fr_trans F3 (nm_Fr_appl F4)) (fun p x y => by rw [nm_gt_frn F4 hA3.1 (by decide) (by decide +kernel)]; exact a3 p x y)
    exact key 0 (Nat.zero_le _) M2 F2 a2
  · rw [if_neg hl] at q
    exact h_248_10 hL ⟨fun h => absurd rfl h, fun _ => q⟩
/-- union -/
theorem nmm_143 {d : Nat} {b k : Int} {M : am_M} {Q : List am_V → am_M → Prop} (hL : nm_Lay M) (b0 : 0 ≤ b) (b1 : b ≤ 63) (k0 : 0 ≤ k) (k1 : k < 6) (h1 : nm_bit b k = 1 → Q [(0, 1)] M) (h0 : nm_bit b k ≠ 1 → Q [(0, 0)] M) : am_CL d 143 [(0, b), (0, k)] M Q := by
  refine h_143_0 hL ?_
  rw [nm_bit_and b0 b1 k0 k1]
  exact ⟨fun h => h0 h, fun h => h1 (by omega)⟩
theorem nmq_31 {d : Nat} {m : Int} {X : nm_X} {M : am_M} {Q : List am_V → am_M → Prop} (hd : 3 ≤ d) (hok : nm_ok X) (hM : nm_M M X) (hQ : nm_KM (sp_31 X m).1 [(0, (sp_31 X m).2)] M Q) : am_CL d 241 [(2, 214), (0, m)] M Q := by
  have F0 := nm_m0F (M := M)
  have hM0 := nm_m0 hok hM
  have hM1 := hM0
  have hL := nm_M_L hM0
  refine h_241_0 (nm_M_L hM) ⟨by omega, ?_⟩
  generalize am_st M 214 0 0 = M0 at F0 hM0 hM1 hL ⊢
  obtain ⟨m1, m2, m3, m4, m5, m6⟩ := hM1
  have m1' := m1
  obtain ⟨a1, hS, hW, hO, hX, a6⟩ := m1
  have o0 := hO.1
  have oc := hO.2.2.2.2.2.2.2.2.2.2.1
  have q := hQ M0 F0 hM0
  unfold sp_31 at q
  simp only at q
  have e0 : am_gt M0 216 0 = nx_S X 0 := hS 0 (by unfold nm_si; omega)
  refine nmm_154 (by omega) hL hS hO (fun a0 a1 => ?_) (fun a0 => ?_)
  · rw [if_pos ⟨a0, a1⟩] at q
    have bm := nm_2m a0 (show m < 6 by omega)
    have fx := nm_un_fix hO hok.1.2.1 a0 a1 (7 - (nx_S X 0).toNat)
    rw [show (nx_S X 0).toNat - 1 + (7 - (nx_S X 0).toNat) = 6 by omega] at fx
    rw [← fx] at q
    refine h_241_10 hL ⟨fun _ => ?_, fun h => absurd h (by decide)⟩
    rw [nm_shl1 a0 (by omega)]
    have outer : ∀ k : Nat, k ≤ 6 → ∀ l4, am_WP d am_c241 21 [(2, 214), (0, m), (0, nm_un (nx_S X) (nx_S X 0).toNat k (2 ^ m.toNat)), (0, (k : Int)), l4] [] M0 Q := by
      refine nm_dn ?_
      intro k hk ih l4
      have br := nm_un_in hO bm.1 bm.2 (n := (nx_S X 0).toNat) (by omega) k
      refine h_241_21 hL ⟨fun h => ?_, fun h => ?_⟩
      · have hke : k = 6 := by omega
        subst hke
        exact q
      · have inner : ∀ j : Nat, j ≤ (nx_S X 0).toNat → am_WP d am_c241 30 [(2, 214), (0, m), (0, nm_ui (nx_S X) j (nm_un (nx_S X) (nx_S X 0).toNat k (2 ^ m.toNat))), (0, (k : Int)), (0, (j : Int))] [] M0 Q := by
          refine nm_dn ?_
          intro j hj ihj
          have bj := (nm_ui_ok hO br.1 br.2 j (by omega)).1
          refine h_241_30 hL ?_
          rw [e0]
          refine ⟨fun h2 => ?_, fun h2 => ⟨by omega, ?_⟩⟩
          · have hje : j = (nx_S X 0).toNat := by omega
            rw [nm_wk (by omega), hje]
            exact ih (by omega) _
          · have := ihj (by omega)
            rw [nm_ui_s] at this
            refine nmm_143 hL bj.1 bj.2 (by omega) (by omega) (fun hb => ?_) (fun hb => ?_)
            · rw [if_pos hb] at this
              refine h_241_48 hL ⟨fun h => absurd h (by decide), fun _ => ?_⟩
              rw [am_w_id (x := 71 + (j : Int)) (by omega) (by omega), hS (71 + (j : Int)) (by unfold nm_si; omega), nm_wk (by omega)]
              exact ⟨by omega, by omega, this⟩
            · rw [if_neg hb] at this
              refine h_241_48 hL ⟨fun _ => ?_, fun h => absurd rfl h⟩
              rw [nm_or0 ⟨by omega, by omega⟩, nm_wk (by omega)]
              exact this
        exact inner 0 (Nat.zero_le _)
    exact outer 0 (Nat.zero_le _) _
  · rw [if_neg (by omega)] at q
    exact h_241_10 hL ⟨fun h => absurd rfl h, fun _ => q⟩
/-- years -/
theorem nmm_257 {d : Nat} {t n : Int} {M : am_M} {Q : List am_V → am_M → Prop} (hL : nm_Lay M) (g : am_gt M 214 56 = t) (t0 : 0 ≤ t) (t1 : t < 1000003) (n0 : 0 < n) (n1 : n ≤ 6) (hQ : ∀ M', nm_Fr [(214, 56, 57)] M M' → am_gt M' 214 56 = nm_dr t → Q [(0, nm_dr t % n)] M') : am_CL d 257 [(2, 214), (0, n)] M Q := by
  have b1 := nm_dr_in t
  have m0 := Int.emod_nonneg (nm_dr t) (show n ≠ 0 by omega)
  have m1 := Int.emod_lt_of_pos (nm_dr t) n0
  have d1 : (am_wl ((am_wl (t * 1103)) + 12345)).tmod 1000003 = nm_dr t := by
    rw [am_wl_id (x := t * 1103) (by omega) (by omega), am_wl_id (by omega) (by omega), Int.tmod_eq_emod_of_nonneg (by omega)]; rfl
  refine h_257_0 hL ?_
  rw [g, d1, Int.tmod_eq_emod_of_nonneg b1.1, am_w_id (by omega) (by omega)]
  exact ⟨by omega, hQ _ (nm_Fr_st (nm_Fg_refl _ _) (by decide)) nm_st_eq⟩
abbrev nm_ygM : nm_Rg := [(214, 56, 57)] ++ nm_ppM
theorem nm_MA_yg {M M' : am_M} {S : Int → Int} {W : nm_W} {D : Int → nm_T} {f : nm_Rg} (h : nm_MA M S W D) (F : nm_Fr f M M') (h1 : nm_lk f = true) (h2 : nm_no f 216 = true) (h3 : nm_dj f [(214, 20, 21)] = true) : nm_MA M' S W D := nm_MA_fr h F h1 h2 h3
theorem nmq_37 {d : Nat} {s n : Int} {X : nm_X} {M : am_M} {Q : List am_V → am_M → Prop} (hd : 11 ≤ d) (hok : nm_ok X) (hM : nm_M M X) (hQ : nm_KM (sp_37 X s n).1 [(0, (sp_37 X s n).2)] M Q) : am_CL d 258 [(2, 214), (0, s), (0, n)] M Q := by
  have F0 := nm_m0F (M := M)
  have hM0 := nm_m0 hok hM
  have hM1 := hM0
  have hL := nm_M_L hM0
  refine h_258_0 (nm_M_L hM) ⟨by omega, ?_⟩
  generalize am_st M 214 0 0 = M0 at F0 hM0 hM1 hL ⊢
  obtain ⟨m1, m2, m3, m4, m5, m6⟩ := hM1
  have m1' := m1
  obtain ⟨a1, hS, hW, hO, hX, a6⟩ := m1
  have oW : nm_okW (nx_S X 0) (nx_W X) := hok.1.2.2.1
  have o0 := hO.1
  have o7 := hO.2.2.2.2.2.2.1
  have e0 : am_gt M0 216 0 = nx_S X 0 := hS 0 (by unfold nm_si; omega)
  have R1 : (s < 0 ∨ 1000000 < s ∨ n < 1 ∨ 60 < n) → 0 < d ∧ am_CL (d - 1) 145 [(2, 214), (0, (-1))] M0 (fun r M' => am_WP d am_c258 34 [(2, 214), (0, s), (0, n), (9, 0), (9, 0), (9, 0), (9, 0)] (r ++ []) M' Q) := by
    intro h
    unfold sp_37 at hQ; rw [if_pos h] at hQ
    exact ⟨by omega, nmq_ref (k := 258) hok (by decide) F0 hM0 (fun M' L q => h_258_34 L q) hQ⟩
  refine nmm_142 hL (fun s0 s1 => ?_) (fun s0 => h_258_14 hL ⟨fun _ => R1 (by omega), fun h => absurd rfl h⟩)
  refine h_258_14 hL ⟨fun h => absurd h (by decide), fun _ => ⟨by omega, nmm_142 hL (fun n0 n1 => ?_) (fun n0 => h_258_26 hL ⟨fun h => absurd rfl h, fun _ => R1 (by omega)⟩)⟩⟩
  refine h_258_26 hL ⟨fun _ => ?_, fun h => absurd h (by decide)⟩
  rw [e0]
  unfold sp_37 at hQ; rw [if_neg (by omega)] at hQ
  refine ⟨fun hz => ⟨by omega, ?_⟩, fun hz => ?_⟩
  · rw [if_neg hz] at hQ
    refine nmm_148s (k := 16) m1' (by decide) (by decide) (fun M1 F1 sn1 => ?_)
    have hA1 := nm_MA_fr m1' F1 (by decide +kernel) (by decide +kernel) (by decide +kernel)
    refine h_258_57 hA1.1 ?_
    have F1' : nm_Fr nm_ygM M0 (am_st M1 214 56 s) := nm_Fr_st (nm_Fr_sub F1 (by decide +kernel)) (by decide +kernel)
    have Fs : nm_Fr [(214, 56, 57)] M1 (am_st M1 214 56 s) := nm_Fr_st (nm_Fg_refl _ _) (by decide)
    have last : ∀ (W : nm_W) (a : Int) (M2 : am_M) (l5 l6 : am_V), 0 ≤ a → nm_Fr nm_ygM M0 M2 → nm_MA M2 (nx_S X) W (nx_D X) → nm_Sn M2 16 (nx_S X) (nx_W X) → W.2.1.Nodup → (W, a) = nm_yr (nx_S X) (nm_lwf (nx_S X) (nx_D X)) n.toNat s (nx_W X) 0 → am_WP d am_c258 177 [(2, 214), (0, s), (0, n), (0, a), (0, 0), l5, l6] [] (am_st M2 214 58 (am_gt M2 216 0)) Q := by
      intro W a M2 l5 l6 a0 F2 hA2 sn2 nd e
      rw [← e] at hQ
      rw [hA2.2.1 0 (by unfold nm_si; omega)]
      have F3 : nm_Fr [(214, 58, 59), (246, 0, 20)] M2 (am_st M2 214 58 (nx_S X 0)) := nm_Fr_st (nm_Fg_refl _ _) (by decide)
      have k1 : ∀ k : Nat, k ≤ 8 → ∀ M3, nm_Fr [(214, 58, 59), (246, 0, 20)] M2 M3 → am_gt M3 214 58 = nx_S X 0 → (∀ p, 0 ≤ p → p < (k : Int) → am_gt M3 246 p = W.2.2.2 p) → am_WP d am_c258 177 [(2, 214), (0, s), (0, n), (0, a), (0, (k : Int)), l5, l6] [] M3 Q := by
        refine nm_dn ?_
        intro k hk ih M3 F3 g3 p3
        have hA3 := nm_MA_fr hA2 F3 (by decide +kernel) (by decide +kernel) (by decide +kernel)
        refine h_258_177 hA3.1 ⟨fun h => ?_, fun h => ?_⟩
        · have hk8 : k = 8 := by omega
          subst hk8
          have k2 : ∀ m : Nat, m ≤ (nx_S X 0).toNat → ∀ M4, nm_Fr [(214, 58, 59), (246, 0, 20)] M2 M4 → am_gt M4 214 58 = nx_S X 0 → (∀ p, 0 ≤ p → p < 8 → am_gt M4 246 p = W.2.2.2 p) → (∀ j, 0 ≤ j → j < (m : Int) → am_gt M4 246 (8 + j) = W.2.2.1 j ∧ am_gt M4 246 (14 + j) = nm_ix W.2.1 j) → am_WP d am_c258 210 [(2, 214), (0, s), (0, n), (0, a), (0, (m : Int)), l5, l6] [] M4 Q := by
            refine nm_dn ?_
            intro m hm ihm M4 F4 g4 p4 q4
            have hA4 := nm_MA_fr hA2 F4 (by decide +kernel) (by decide +kernel) (by decide +kernel)
            refine h_258_210 hA4.1 ?_
            rw [g4]
            refine ⟨fun h2 => ⟨by omega, ?_⟩, fun h2 => ?_⟩
            · have hme : m = (nx_S X 0).toNat := by omega
              subst hme
              refine nmm_149s (k := 16) hA4 (nm_Sn_16 sn2 hA2.1 F4 (by decide +kernel)) (by decide) (by decide) (fun M5 F5 hA5 => ?_)
              have F24 : nm_Fr ([(214, 58, 59), (246, 0, 20)] ++ [(216, 4, 29)]) M2 M5 := nm_Fr_trans (nm_Fr_appl F4) (nm_Fr_appr F5)
              have F05 : nm_Fr (nm_ygM ++ [(214, 58, 59), (246, 0, 20)]) M0 M5 := nm_Fr_trans (nm_Fr_appl F2) (nm_Fr_sub F24 (by decide +kernel))
              obtain ⟨r0, r1, r2, r3, r4, r5⟩ := m5
              have C5 : nm_M M5 (ns_Y X (nm_up (nx_R X) 10 (nx_S X 0)) W) := ⟨hA5, fun k a b => ⟨(nm_gt_frn F05 hL (by decide) (by decide +kernel)).trans (m2 k a b).1, fun e => nm_MI_fr (nm_ok_I hok a b e) ((m2 k a b).2 e) hL F05 (by decide +kernel)⟩, nm_MU_fr m3 hL F05 (by decide +kernel) (by decide +kernel) (by decide +kernel), nm_MP_fr m4 hL F05 (by decide +kernel) (by decide +kernel), ⟨by rw [nm_gt_frd (g := [(214, 1, 2)]) F05 hL (by decide) (by decide +kernel) (by decide +kernel)]; exact r0, fun j a b c => by rw [nm_gt_frn F05 hL (by decide) (by decide +kernel)]; show _ = nm_up (nx_R X) 10 (nx_S X 0) j; rw [nm_up_ne (by omega)]; exact r1 j a b c, by rw [nm_gt_frd (g := [(214, 11, 12)]) F05 hL (by decide) (by decide +kernel) (by decide +kernel)]; exact r2, by rw [nm_gt_frd (g := [(214, 18, 19)]) F05 hL (by decide) (by decide +kernel) (by decide +kernel)]; exact r3, by rw [nm_gt_frd (g := [(214, 54, 55)]) F05 hL (by decide) (by decide +kernel) (by decide +kernel)]; exact r4, by rw [nm_gt_frn F5 hA4.1 (by decide) (by decide +kernel), g4]; show _ = nm_up (nx_R X) 10 (nx_S X 0) 10; rw [nm_up_eq]⟩, .inr ⟨fun p x y => by rw [nm_gt_frn F5 hA4.1 (by decide) (by decide +kernel)]; exact p4 p x y, fun j x y => by have y1 : j < nm_up (nx_R X) 10 (nx_S X 0) 10 := y; rw [nm_up_eq] at y1; rw [nm_gt_frn F5 hA4.1 (by decide) (by decide +kernel), nm_gt_frn F5 hA4.1 (by decide) (by decide +kernel)]; exact q4 j x (by omega)⟩⟩
              refine h_258_267 hA5.1 ⟨by omega, nmm_145 (R := nm_up (nx_R X) 10 (nx_S X 0)) (.inl a0) hA5.1 C5.2.2.2.2.1 (fun M6 F6 r6 => ?_)⟩
              have C6 := nm_M_tell (X0 := X) (X := ns_Y X (nm_up (nx_R X) 10 (nx_S X 0)) W) hok rfl rfl (.inl a0) C5 F6 r6
              rw [nx_tl_fn a0] at C6
              exact h_258_272 (nm_M_L C6) (hQ M6 (nm_Fr_trans F0 (nm_Fr_trans (nm_mF F05 (by decide +kernel)) (nm_mF F6 (by decide +kernel)))) C6)
            · rw [am_w_id (x := 15 + (m : Int)) (by omega) (by omega), am_w_id (x := 8 + (m : Int)) (by omega) (by omega), am_w_id (x := 14 + (m : Int)) (by omega) (by omega), hA4.2.2.1.2.2.2.2.1 (m : Int) (by omega) (by omega)]
              have F5 : nm_Fr [(214, 58, 59), (246, 0, 20)] M2 (am_st M4 246 (8 + (m : Int)) (W.2.2.1 (m : Int))) := nm_Fr_st F4 (nm_in_c (lo := 0) (hi := 20) (by decide) (by omega) (by omega))
              have hA5 := nm_MA_fr hA2 F5 (by decide +kernel) (by decide +kernel) (by decide +kernel)
              refine ⟨by omega, by omega, by omega, by omega, by omega, nm_m157 hA5.1 hA5.2.2.1 nd (h_258_254 hA5.1 ⟨by omega, by omega, ?_⟩)⟩
              rw [nm_wk (by omega)]
              refine ihm (by omega) _ (nm_Fr_st F5 (nm_in_c (lo := 0) (hi := 20) (by decide) (by omega) (by omega))) (by rw [nm_st_ne (by decide), nm_st_ne (by decide)]; exact g4) (fun p x y => by rw [nm_st_nj (by omega), nm_st_nj (by omega)]; exact p4 p x y) (fun j x y => ?_)
              by_cases hj : j = (m : Int)
              · subst hj; rw [nm_st_nj (by omega), nm_st_eq, nm_st_eq]; exact ⟨rfl, rfl⟩
              · rw [nm_st_nj (by omega), nm_st_nj (by omega), nm_st_nj (by omega), nm_st_nj (by omega)]; exact q4 j x (by omega)
          exact k2 0 (Nat.zero_le _) M3 F3 g3 (fun p x y => p3 p x (by omega)) (fun j x y => absurd y (by omega))
        · rw [am_w_id (x := 21 + (k : Int)) (by omega) (by omega), hA3.2.2.1.2.2.2.2.2 (k : Int) (by omega) (by omega), nm_wk (by omega)]
          refine ⟨by omega, by omega, by omega, by omega, ih (by omega) _ (nm_Fr_st F3 (nm_in_c (lo := 0) (hi := 20) (by decide) (by omega) (by omega))) (by rw [nm_st_ne (by decide)]; exact g3) (fun p x y => ?_)⟩
          rw [nm_gt_st]
          by_cases hp : p = (k : Int)
          · rw [if_pos ⟨rfl, hp⟩, hp]
          · rw [if_neg (fun c => hp c.2)]; exact p3 p x (by omega)
      exact k1 0 (Nat.zero_le _) _ F3 nm_st_eq (fun p x y => absurd y (by omega))
    have key : ∀ (f : Nat) (t : Int) (W : nm_W) (a : Int) (M2 : am_M) (l5 l6 : am_V), (f : Int) ≤ n → 0 ≤ t → t < 1000003 → 0 ≤ a → a + 48 * (f : Int) ≤ 10000 → nm_Fr nm_ygM M0 M2 → am_gt M2 214 56 = t → nm_MA M2 (nx_S X) W (nx_D X) → nm_Sn M2 16 (nx_S X) (nx_W X) → nm_okW (nx_S X 0) W → nm_yr (nx_S X) (nm_lwf (nx_S X) (nx_D X)) f t W a = nm_yr (nx_S X) (nm_lwf (nx_S X) (nx_D X)) n.toNat s (nx_W X) 0 → am_WP d am_c258 68 [(2, 214), (0, s), (0, n), (0, a), (0, n - (f : Int)), l5, l6] [] M2 Q := by
      intro f
      induction f with
      | zero =>
        intro t W a M2 l5 l6 hf t0 t1 a0 a1 F g56 hA2 sn2 ok2 e
        exact h_258_68 hA2.1 ⟨fun _ => last W a M2 _ _ a0 F hA2 sn2 ok2.2.2.1 e, fun h => absurd (show n ≤ n - ((0 : Nat) : Int) by omega) h⟩
      | succ f ih =>
        intro t W a M2 l5 l6 hf t0 t1 a0 a1 F g56 hA2 sn2 ok2 e
        refine h_258_68 hA2.1 ⟨fun h => absurd h (by omega), fun _ => ?_⟩
        rw [hA2.2.2.1.1]
        refine ⟨fun hn => last W a M2 _ _ a0 F hA2 sn2 ok2.2.2.1 (by rw [← e]; show _ = if 999 ≤ W.1 then _ else _; rw [if_pos hn]), fun hn => ⟨by omega, ?_⟩⟩
        have b1 := nm_dr_in t
        have b2 := nm_dr_in (nm_dr t)
        have m0 := Int.emod_nonneg (nm_dr t) (show nx_S X 0 ≠ 0 from hz)
        have m1 := Int.emod_lt_of_pos (nm_dr t) (show 0 < nx_S X 0 by omega)
        have e3 : nm_yr (nx_S X) (nm_lwf (nx_S X) (nx_D X)) f (nm_dr (nm_dr t)) (nm_pass (nx_S X) (nm_lwf (nx_S X) (nx_D X)) (nm_yW (nx_S X) (nm_lwf (nx_S X) (nx_D X)) W (nm_dr t % nx_S X 0) (nm_dr (nm_dr t) % 3))) (a + ((nm_all (nx_S X) (nm_yW (nx_S X) (nm_lwf (nx_S X) (nx_D X)) W (nm_dr t % nx_S X 0) (nm_dr (nm_dr t) % 3)) (nm_lwf (nx_S X) (nx_D X)) (nx_S X 7)).length : Int)) = nm_yr (nx_S X) (nm_lwf (nx_S X) (nx_D X)) n.toNat s (nx_W X) 0 := by
          rw [← e]; show _ = if 999 ≤ W.1 then _ else _; rw [if_neg hn]
        obtain ⟨oky, hy1⟩ := nm_yW_ok (T := nm_lwf (nx_S X) (nx_D X)) (m := nm_dr t % nx_S X 0) (h := nm_dr (nm_dr t) % 3) rfl ok2
        rw [hA2.2.1 0 (by unfold nm_si; omega)]
        refine nmm_257 hA2.1 g56 t0 t1 (by omega) (by omega) (fun M3 F3 g3 => ?_)
        have hA3 := nm_MA_fr hA2 F3 (by decide +kernel) (by decide +kernel) (by decide +kernel)
        refine h_258_96 hA3.1 ⟨by omega, nmm_257 hA3.1 g3 b1.1 b1.2 (by decide) (by decide) (fun M4 F4 g4 => ?_)⟩
        have hA4 := nm_MA_fr hA3 F4 (by decide +kernel) (by decide +kernel) (by decide +kernel)
        have F04 : nm_Fr nm_ygM M0 M4 := nm_Fr_trans (nm_Fr_trans F (nm_Fr_sub F3 (by decide +kernel))) (nm_Fr_sub F4 (by decide +kernel))
        have sn4 := nm_Sn_16 (nm_Sn_16 sn2 hA2.1 F3 (by decide +kernel)) hA3.1 F4 (by decide +kernel)
        have night2 : ∀ M5 x6, nm_Fr nm_ygM M0 M5 → am_gt M5 214 56 = nm_dr (nm_dr t) → nm_MA M5 (nx_S X) (nm_yW (nx_S X) (nm_lwf (nx_S X) (nx_D X)) W (nm_dr t % nx_S X 0) (nm_dr (nm_dr t) % 3)) (nx_D X) → nm_Sn M5 16 (nx_S X) (nx_W X) → am_WP d am_c258 151 [(2, 214), (0, s), (0, n), (0, a), (0, n - ((f + 1 : Nat) : Int)), (0, nm_dr t % nx_S X 0), (0, x6)] [] M5 Q := by
          intro M5 x6 F5 g5 hA5 sn5
          refine h_258_151 hA5.1 ⟨by omega, nmm_223 (by omega) hA5 oky (fun M6 F6 W6 => ?_)⟩
          have hA6 := nm_MA_W hA5 F6 (by decide +kernel) (by decide +kernel) (by decide +kernel) W6
          have hlen := nm_all_len (T := nm_lwf (nx_S X) (nx_D X)) o7.2 hA5.2.2.1.2.2.1
          refine h_258_156 hA6.1 ?_
          rw [am_w_id (x := a + _) (by omega) (by omega), am_w_id (x := n - _ + 1) (by omega) (by omega), show n - ((f + 1 : Nat) : Int) + 1 = n - (f : Int) by omega]
          exact ih _ _ _ M6 _ _ (by omega) b2.1 b2.2 (by omega) (by omega) (nm_Fr_trans F5 (nm_Fr_sub F6 (by decide +kernel))) (by rw [nm_gt_frd (g := [(214, 56, 57)]) F6 hA5.1 (by decide) (by decide +kernel) (by decide +kernel)]; exact g5) hA6 (nm_Sn_16 sn5 hA5.1 F6 (by decide +kernel)) (nm_okW_pass oky (by omega)) e3
        refine h_258_103 hA4.1 ⟨fun c0 => h_258_125 hA4.1 ⟨fun c1 => ?_, fun c1 => ⟨by omega, nm_m157 hA4.1 hA4.2.2.1 ok2.2.2.1 (h_258_137 hA4.1 ⟨fun ex => ?_, fun ex => ⟨by omega, nm_m157 hA4.1 hA4.2.2.1 ok2.2.2.1 ?_⟩⟩)⟩⟩, fun c0 => ⟨by omega, nmm_212 (by omega) hA4 ok2 m0 m1 (fun M5 F5 er hl h6 => ?_) (fun M5 F5 er => ?_)⟩⟩
        · refine night2 M4 _ F04 g4 ?_ sn4
          unfold nm_yW; rw [if_neg c0, if_neg c1]; exact hA4
        · refine night2 M4 _ F04 g4 ?_ sn4
          unfold nm_yW; rw [if_neg c0, if_pos (by omega), if_pos ex]; exact hA4
        · rcases nm_ix_cases W.2.1 (nm_dr t % nx_S X 0) with ⟨ex', -⟩ | ⟨j, hj, -, ej⟩
          · exact absurd ex' ex
          rw [ej]
          refine h_258_148 hA4.1 ⟨by omega, nmm_216 hA4.1 hA4.2.2.1 hj (fun M5 F5 W5 => ?_)⟩
          have hA5 := nm_MA_W hA4 F5 (by decide +kernel) (by decide +kernel) (by decide +kernel) W5
          refine night2 M5 _ (nm_Fr_trans F04 (nm_Fr_sub F5 (by decide +kernel))) (by rw [nm_gt_frn F5 hA4.1 (by decide) (by decide +kernel)]; exact g4) ?_ (nm_Sn_16 sn4 hA4.1 F5 (by decide +kernel))
          unfold nm_yW; rw [if_neg c0, if_pos (by omega), if_neg ex, ej]; exact hA5
        · have hA5 := nm_MA_fr hA4 F5 (by decide +kernel) (by decide +kernel) (by decide +kernel)
          have F05 : nm_Fr nm_ygM M0 M5 := nm_Fr_trans F04 (nm_Fr_sub F5 (by decide +kernel))
          refine h_258_116 hA5.1 ⟨fun h => absurd h (by decide), fun _ => ⟨by omega, nmm_213 hA5.1 hA5.2.2.1 h6 (fun M6 F6 W6 => ?_)⟩⟩
          have hA6 := nm_MA_W hA5 F6 (by decide +kernel) (by decide +kernel) (by decide +kernel) W6
          refine h_258_125 hA6.1 ⟨fun _ => night2 M6 _ (nm_Fr_trans F05 (nm_Fr_sub F6 (by decide +kernel))) (by rw [nm_gt_frn F6 hA5.1 (by decide) (by decide +kernel), nm_gt_frd (g := [(214, 56, 57)]) F5 hA4.1 (by decide) (by decide +kernel) (by decide +kernel)]; exact g4) ?_ (nm_Sn_16 (nm_Sn_16 sn4 hA4.1 F5 (by decide +kernel)) hA5.1 F6 (by decide +kernel)), fun h => absurd h (by omega)⟩
          unfold nm_yW; rw [if_pos (by omega), if_neg (by omega)]; exact hA6
        · have hA5 := nm_MA_fr hA4 F5 (by decide +kernel) (by decide +kernel) (by decide +kernel)
          have F05 : nm_Fr nm_ygM M0 M5 := nm_Fr_trans F04 (nm_Fr_sub F5 (by decide +kernel))
          refine h_258_116 hA5.1 ⟨fun _ => h_258_125 hA5.1 ⟨fun _ => night2 M5 _ F05 (by rw [nm_gt_frd (g := [(214, 56, 57)]) F5 hA4.1 (by decide) (by decide +kernel) (by decide +kernel)]; exact g4) ?_ (nm_Sn_16 sn4 hA4.1 F5 (by decide +kernel)), fun h => absurd h (by omega)⟩, fun h => absurd rfl h⟩
          unfold nm_yW; rw [if_pos (by omega), if_pos (by omega)]; exact hA5
    have := key n.toNat s (nx_W X) 0 (am_st M1 214 56 s) (9, 0) (9, 0) (by omega) (by omega) (by omega) (by decide) (by omega) F1' nm_st_eq (nm_MA_fr hA1 Fs (by decide +kernel) (by decide +kernel) (by decide +kernel)) (nm_Sn_16 sn1 hA1.1 Fs (by decide +kernel)) oW rfl
    rw [show n - ((n.toNat : Nat) : Int) = 0 by omega] at this
    exact this
  · rw [if_pos (by omega)] at hQ
    exact ⟨by omega, nmq_ref (k := 258) hok (by decide) F0 hM0 (fun M' L q => h_258_50 L q) hQ⟩
