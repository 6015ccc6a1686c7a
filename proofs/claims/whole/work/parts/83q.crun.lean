/-! THE CLASS RUNS ORDERS -/
theorem nm_ch_b {X : nm_X} {k m b : Int} (hk : k = 0 ∨ k = 1) : nm_ch X k m b = nm_ch X k m 0 := by
  rcases hk with rfl | rfl <;> rfl
theorem nm_ch_m {X : nm_X} {m b : Int} : nm_ch X 3 m b = nm_ch X 3 0 0 := rfl
theorem nm_ch_bd {X : nm_X} {k m b : Int} (hok : nm_ok X) (h6 : (nx_W X).2.1.length ≤ 6) (hk : k = 3) : (nm_ch X k m b).2 ≤ 48 := by
  subst hk
  have h7 : nx_S X 7 ≤ 8 := hok.1.1.2.2.2.2.2.2.1.2
  have := nm_all_len (T := nm_lwf (nx_S X) (nx_D X)) h7 h6
  have e : nm_chA (nx_S X) (nx_W X) (nm_lwf (nx_S X) (nx_D X)) 3 m b = (if 999 ≤ (nx_W X).1 then -3 else ((nm_all (nx_S X) (nx_W X) (nm_lwf (nx_S X) (nx_D X)) (nx_S X 7)).length : Int)) := rfl
  have le : nm_chA (nx_S X) (nx_W X) (nm_lwf (nx_S X) (nx_D X)) 3 m b ≤ 48 := by rw [e]; split <;> omega
  unfold nm_ch
  split <;> exact le
abbrev rc_og : nm_Rg := nm_chF ++ [(0, 17, 18)]
theorem rc_56 {d : Nat} {t : Int} {cs : List rd_C} {X : nm_X} {M : am_M} {Q : List am_V → am_M → Prop} (hd : 14 ≤ d) (hC : nm_C M X) (hok : nm_ok X) (hT : rc_T M 1 t cs) (hcok : ∀ c ∈ cs, rd_cok c)
    (hE : ∀ k X' M' r, rd_all cs 0 (X, 0, -1) = .error k → 0 ≤ k → k ≤ 12 → rd_sm X X' → nm_Fr rc_og M M' → nm_C M' (ns_R X' (nm_up (nx_R X') 9 k)) → Q [(0, r)] M')
    (hK : ∀ X2 dn md M', rd_all cs 0 (X, 0, -1) = .ok (X2, dn, md) → rd_sm X X2 → nm_ok X2 → 0 ≤ dn → nm_Fr rc_og M M' → nm_C M' X2 → Q [(0, dn)] M') : am_CL d 56 [(2, 0), (2, t)] M Q := by
  have len12 : (cs.length : Int) ≤ 12 := by have := hT.2.2.2.2.1; omega
  -- one clause
  have inner : ∀ (k : Nat) (c : rd_C), k < cs.length → cs.getD k rd_c0 = c → rd_cok c → ∀ (tm : Nat) (j : Int) (X1 : nm_X) (dn md : Int) (M1 : am_M) (l8 l9 l10 : am_V) (x6 : Int), (tm : Int) = c.2.2.2.1 - j → 0 ≤ j → rd_sm X X1 → nm_ok X1 → 0 ≤ dn → dn ≤ 20 * (k : Int) + j → -1 ≤ md → md ≤ 48 → nm_Fr rc_og M M1 → nm_C M1 X1 → x6 = am_gt M1 (am_gt M1 t 2) (5 * (k : Int) + 4) → (rd_rep c tm (X1, dn, md) = none → rd_all cs 0 (X, 0, -1) = .error (k : Int)) → (∀ X2 dn2 md2 M2 l6 l7 l8 l9 l10, rd_rep c tm (X1, dn, md) = some (X2, dn2, md2) → rd_sm X X2 → nm_ok X2 → 0 ≤ dn2 → dn2 ≤ 20 * ((k : Int) + 1) → -1 ≤ md2 → md2 ≤ 48 → nm_Fr rc_og M M2 → nm_C M2 X2 → am_WP d am_c56 7 [(2, 0), (2, t), (0, dn2), (0, md2), (0, (k : Int) + 1), (0, c.1), l6, l7, l8, l9, l10] [] M2 Q) → am_WP d am_c56 35 [(2, 0), (2, t), (0, dn), (0, md), (0, (k : Int)), (0, c.1), (0, x6), (0, j), l8, l9, l10] [] M1 Q := by
    intro k c hk hc hcok' tm
    obtain ⟨⟨kd0, kd3⟩, ⟨tm1, tm20⟩, ht01⟩ := hcok'
    induction tm with
    | zero =>
      intro j X1 dn md M1 l8 l9 l10 x6 hj j0 sm1 ok1 d0 d1 m0 m1 F1 C1 hx6 hN hS
      have T1 := rc_T_fr hT F1 (by decide +kernel)
      have L1 := nm_C_L C1
      obtain ⟨q1, q2, q3, q4, q5, q6, q7, q8, q9⟩ := T1
      obtain ⟨r0, r1, r2, r3, r4⟩ := q9 k hk
      rw [hc] at r0 r1 r2 r3 r4
      refine h_56_35 L1 ⟨q3, by omega, nmc_128 q3 q7.2.2.1 (by omega) (by omega) q7.2.2.2 ?_⟩
      rw [r3]
      refine h_56_43 L1 ⟨fun _ => ?_, fun h => absurd (by omega) h⟩
      rw [am_w_id (by omega) (by omega)]
      exact hS X1 dn md M1 _ _ _ _ _ rfl sm1 ok1 d0 (by omega) m0 m1 F1 C1
    | succ tm ih =>
      intro j X1 dn md M1 l8 l9 l10 x6 hj j0 sm1 ok1 d0 d1 m0 m1 F1 C1 hx6 hN hS
      have T1 := rc_T_fr hT F1 (by decide +kernel)
      have T1' := T1
      have L1 := nm_C_L C1
      obtain ⟨q1, q2, q3, q4, q5, q6, q7, q8, q9⟩ := T1
      obtain ⟨r0, r1, r2, r3, r4⟩ := q9 k hk
      rw [hc] at r0 r1 r2 r3 r4
      have w6 := C1.2.1.2.2.1
      have ebd := rd_oe_bd ok1 (dn := dn) (md := md) ⟨by omega, by omega⟩ ⟨by omega, by omega⟩ w6
      generalize he : rd_oe (nx_S X1) (nx_W X1) dn md = e at ebd
      refine h_56_35 L1 ⟨q3, by omega, nmc_128 q3 q7.2.2.1 (by omega) (by omega) q7.2.2.2 ?_⟩
      rw [r3]
      refine h_56_43 L1 ⟨fun h => absurd h (by omega), fun _ => ⟨by omega, nmc_67 L1 (by decide) C1.1.2.1 C1.2.1 (fun M2 F2 hw => ?_)⟩⟩
      rw [he] at hw
      have C2 := nm_C_fr C1 F2 (by decide +kernel)
      have F2' : nm_Fr rc_og M M2 := nm_Fr_trans F1 (nm_Fr_sub F2 (by decide +kernel))
      -- what one time does
      have step : ∀ (o : Option rd_S), rd_on X1 c dn md = o → rd_rep c (tm + 1) (X1, dn, md) = (match o with
        | none => none
        | some st' => rd_rep c tm st') := by
        intro o ho
        show (match rd_on X1 c dn md with
          | none => none
          | some st' => rd_rep c tm st') = _
        rw [ho]
      have wj : am_w (j + 1) = j + 1 := am_w_id (by omega) (by omega)
      -- the text stays
      have keepT : ∀ {M' : am_M}, nm_Fr rc_og M1 M' → rc_T M' 1 t cs ∧ am_gt M' t 1 = am_gt M1 t 1 ∧ am_gt M' t 2 = am_gt M1 t 2 ∧ ∀ i, am_gt M' (am_gt M1 t 2) i = am_gt M1 (am_gt M1 t 2) i := fun F => ⟨rc_T_fr T1' F (by decide +kernel), nm_gt_fr F q2 (nm_lo_in (by decide +kernel) q1), nm_gt_fr F q2 (nm_lo_in (by decide +kernel) q1), fun i => nm_gt_fr F q7.2.1 (nm_lo_in (by decide +kernel) q7.1)⟩
      have blkk : ∀ {M' : am_M}, nm_Fr rc_og M1 M' → ∀ i f, nm_Blk M1 (am_gt M1 t 1) i (nm_mN 1) f → nm_Blk M' (am_gt M1 t 1) i 18 f := by
        rintro M' F i f ⟨cc, jj, hht, b1, b2, b3, b4, b5, b6⟩
        refine ⟨cc, jj, hht, b1, b2, b3, b4, ?_, fun z x y => ?_⟩
        · show jj + 1 ≤ (M'.2.2.1 (am_gt M1 t 1)).2
          rw [F.2.2.2.1 _ q6.2.1]; exact b5
        · rw [nm_gt_fr F q6.2.1 (nm_lo_in (by decide +kernel) q6.1)]; exact b6 z x y
      have rowk : ∀ {M' : am_M}, nm_Fr rc_og M1 M' → nm_row M' (am_gt M1 t 1) := fun F => by
        have := (keepT F).1.2.2.2.2.2.1
        rw [(keepT F).2.1] at this; exact this
      have words : ∀ {M' : am_M}, nm_Fr nm_kg M2 M' → ∀ z, 0 ≤ z → z < 18 → am_gt M' 18 z = e z := fun F z x y => (nm_gt_frn F (nm_C_L C2) (by decide) (by decide)).trans (hw z x y)
      have kgo : ∀ {M' : am_M}, nm_Fr nm_kg M2 M' → nm_Fr rc_og M1 M' := fun F => nm_Fr_trans (nm_Fr_sub F2 (by decide +kernel)) (nm_Fr_sub F (by decide +kernel))
      -- the end: stopped
      have stop : ∀ (M3 : am_M) (X3 : nm_X) (a8 a9 : Int) (l10 : am_V) (v : Int), rd_on X1 c dn md = none → rd_sm X X3 → nm_Fr rc_og M M3 → nm_C M3 X3 → v < 0 → am_WP d am_c56 177 [(2, 0), (2, t), (0, dn), (0, md), (0, (k : Int)), (0, c.1), (0, x6), (0, j), (0, a8), (0, a9), l10] [(0, v)] M3 Q := by
        intro M3 X3 a8 a9 l10 v hno sm3 F3 C3 hv
        refine h_56_177 (nm_C_L C3) ⟨fun h => absurd h (by omega), fun _ => ?_⟩
        refine hE (k : Int) X3 _ dn (hN (by rw [step none hno])) (by omega) (by omega) sm3 (nm_Fr_st F3 (by decide +kernel)) (nm_C_9 C3)
      -- the change
      have chg : ∀ (M3 : am_M) (m b : Int) (l10 : am_V), rd_on X1 c dn md = rd_one X1 c dn md m b → nm_Fr nm_kg M2 M3 → am_CL (d - 1) 54 [(2, 0), (0, c.1), (0, m), (0, b)] M3 (fun r M' => am_WP d am_c56 177 [(2, 0), (2, t), (0, dn), (0, md), (0, (k : Int)), (0, c.1), (0, x6), (0, j), (0, m), (0, b), l10] (r ++ []) M' Q) := by
        intro M3 m b l10 hon F3
        have C3 := nm_C_fr C2 F3 (by decide +kernel)
        have F3' : nm_Fr rc_og M M3 := nm_Fr_trans F2' (nm_Fr_sub F3 (by decide +kernel))
        refine nmc_54 (by omega) ⟨kd0, kd3⟩ C3 ok1 (fun M4 F4 C4 => ?_)
        have F4' : nm_Fr rc_og M M4 := nm_Fr_trans F3' (nm_Fr_appl F4)
        have F14 : nm_Fr rc_og M1 M4 := nm_Fr_trans (kgo F3) (nm_Fr_appl F4)
        have ok4 := nm_ok_ch (m := m) (b := b) ⟨kd0, kd3⟩ ok1
        have sm4 : rd_sm X (nm_ch X1 c.1 m b).1 := rd_sm_ch sm1
        by_cases hv : (nm_ch X1 c.1 m b).2 < 0
        · exact stop M4 _ m b l10 _ (by rw [hon]; unfold rd_one; rw [if_pos hv]) sm4 F4' C4 hv
        · have hon' : rd_on X1 c dn md = some ((nm_ch X1 c.1 m b).1, dn + 1, if c.1 = 3 then (nm_ch X1 c.1 m b).2 else md) := by rw [hon]; unfold rd_one; rw [if_neg hv]
          have rep := step _ hon'
          have x6' : x6 = am_gt M4 (am_gt M4 t 2) (5 * (k : Int) + 4) := by rw [(keepT F14).2.2.1, (keepT F14).2.2.2]; exact hx6
          refine h_56_177 (nm_C_L C4) ⟨fun _ => ?_, fun h => absurd (by omega) h⟩
          rw [wj, am_w_id (x := dn + 1) (by omega) (by omega)]
          refine ⟨fun h3 => ?_, fun h3 => ?_⟩
          · rw [if_neg h3] at rep
            exact ih (j + 1) _ (dn + 1) md M4 _ _ _ x6 (by omega) (by omega) sm4 ok4 (by omega) (by omega) m0 m1 F4' C4 x6' (fun h => hN (by rw [rep]; exact h)) (fun X2 dn2 md2 M5 l6 l7 l8 l9 l10 h => hS X2 dn2 md2 M5 l6 l7 l8 l9 l10 (by rw [rep]; exact h))
          · have h3' : c.1 = 3 := by omega
            rw [if_pos h3'] at rep
            have b48 := nm_ch_bd (m := m) (b := b) ok1 w6 h3'
            exact ih (j + 1) _ (dn + 1) _ M4 _ _ _ x6 (by omega) (by omega) sm4 ok4 (by omega) (by omega) (by omega) b48 F4' C4 x6' (fun h => hN (by rw [rep]; exact h)) (fun X2 dn2 md2 M5 l6 l7 l8 l9 l10 h => hS X2 dn2 md2 M5 l6 l7 l8 l9 l10 (by rw [rep]; exact h))
      -- behind the test
      have ont : rd_tg c.2.2.2.2 e = some 1 → rd_on X1 c dn md = (match rd_m c e with
        | none => none
        | some m => match rd_b c e with
          | none => none
          | some b => rd_one X1 c dn md m b) := by
        intro ht
        unfold rd_on
        rw [he, if_neg (fun h => h ht)]; rfl
      have enc_ne : ∀ (f : rd_F) (i : Int), nm_Blk M1 (am_gt M1 t 1) i (nm_mN 1) f → ∀ v, f e = some v → v ≠ -2147483648 := by
        rintro f i ⟨cc, jj, hht, b1, -⟩ v hv
        have := b1.2.2.1 e ebd v hv
        have := this.1
        omega
      have at115 : rd_tg c.2.2.2.2 e = some 1 → ∀ (M3 : am_M), nm_Fr nm_kg M2 M3 → ∀ (mo : Option Int), rd_m c e = mo → (∀ v, mo = some v → v ≠ -2147483648) → ∀ l8 l9 l10, am_WP d am_c56 115 [(2, 0), (2, t), (0, dn), (0, md), (0, (k : Int)), (0, c.1), (0, x6), (0, j), l8, l9, l10] [(0, nm_enc mo)] M3 Q := by
        intro ht M3 F3 mo hmo hne l8 l9 l10
        have L3 : nm_Lay M3 := nm_Lay_fr (nm_C_L C2) F3 (by decide +kernel)
        have C3 := nm_C_fr C2 F3 (by decide +kernel)
        have F3' : nm_Fr rc_og M M3 := nm_Fr_trans F2' (nm_Fr_sub F3 (by decide +kernel))
        have on1 := ont ht
        rw [hmo] at on1
        obtain ⟨K1, K2, K3, K4⟩ := keepT (kgo F3)
        refine h_56_115 L3 ⟨fun h2 => ⟨fun hb => ?_, fun hb => ⟨fun _ => ⟨by omega, ?_⟩, fun h => absurd (by decide) h⟩⟩, fun h2 => ⟨K1.2.2.1, by omega, nmc_127 K1.2.2.1 (by rw [K3]; exact (K3 ▸ K1.2.2.2.2.2.2.1.2.2.1)) (by omega) (by have := K1.2.2.2.2.2.2.2.1; omega) K1.2.2.2.2.2.2.1.2.2.2 ?_⟩⟩
        · have hmn : mo = none := by
            cases mo with
            | none => rfl
            | some v => exact absurd hb (hne v rfl)
          rw [hmn] at on1
          exact stop M3 X1 _ _ _ _ on1 sm1 F3' C3 (by decide)
        · cases mo with
          | none => exact absurd rfl hb
          | some m =>
            have hbb : rd_b c e = some 0 := by unfold rd_b; rw [if_neg h2]
            simp only [hbb] at on1
            exact chg M3 m 0 _ on1 F3
        · have hk2 : c.1 = 2 := by omega
          refine h_56_137 L3 ⟨by omega, ?_⟩
          rw [K2, K3, K4]
          have bl := r2 ⟨by decide, hk2⟩
          refine rc_rk (by omega) L3 (rowk (kgo F3)) (blkk (kgo F3) _ _ bl) (words F3) ebd (fun M4 F4 => ?_)
          have F24 : nm_Fr nm_kg M2 M4 := nm_Fr_trans F3 F4
          have C4 := nm_C_fr C2 F24 (by decide +kernel)
          have F4' : nm_Fr rc_og M M4 := nm_Fr_trans F2' (nm_Fr_sub F24 (by decide +kernel))
          have hbb : rd_b c e = c.2.2.1 e := by unfold rd_b; rw [if_pos hk2]
          rw [hbb] at on1
          have nb := enc_ne _ _ bl
          refine h_56_140 (nm_C_L C4) ⟨fun hb => ?_, fun hb => ⟨fun hb2 => ⟨by omega, ?_⟩, fun hb2 => ?_⟩⟩
          · have hmn : mo = none := by
              cases mo with
              | none => rfl
              | some v => exact absurd hb (hne v rfl)
            rw [hmn] at on1
            exact stop M4 X1 _ _ _ _ on1 sm1 F4' C4 (by decide)
          · cases mo with
            | none => exact absurd rfl hb
            | some m =>
              cases hbv : c.2.2.1 e with
              | none => rw [hbv] at hb2; exact absurd rfl hb2
              | some b =>
                rw [hbv] at on1
                exact chg M4 m b _ on1 F24
          · cases mo with
            | none => exact absurd rfl hb
            | some m =>
              cases hbv : c.2.2.1 e with
              | none =>
                rw [hbv] at on1
                exact stop M4 X1 _ _ _ _ on1 sm1 F4' C4 (by decide)
              | some b =>
                rw [hbv] at hb2
                have := nb b hbv
                exact absurd hb2 (fun q => q this)
      -- the first sum
      have first : rd_tg c.2.2.2.2 e = some 1 → ∀ (M3 : am_M), nm_Fr nm_kg M2 M3 → ∀ l8 l9 l10, (c.1 ≠ 3 → am_kd M3 t = 5 ∧ 0 < d ∧ am_CL (d - 1) 126 [(2, t), (0, (k : Int))] M3 (fun r M' => am_WP d am_c56 112 [(2, 0), (2, t), (0, dn), (0, md), (0, (k : Int)), (0, c.1), (0, x6), (0, j), l8, l9, l10] (r ++ [(2, am_gt M3 t 1), (2, 17)]) M' Q)) ∧ (¬ (c.1 ≠ 3) → am_WP d am_c56 115 [(2, 0), (2, t), (0, dn), (0, md), (0, (k : Int)), (0, c.1), (0, x6), (0, j), l8, l9, l10] [(0, 0)] M3 Q) := by
        intro ht M3 F3 l8 l9 l10
        have L3 : nm_Lay M3 := nm_Lay_fr (nm_C_L C2) F3 (by decide +kernel)
        obtain ⟨K1, K2, K3, K4⟩ := keepT (kgo F3)
        refine ⟨fun h3 => ⟨K1.2.2.1, by omega, nmc_126 K1.2.2.1 K1.2.2.2.2.2.2.1.2.2.1 (by omega) (by have := K1.2.2.2.2.2.2.2.1; omega) K1.2.2.2.2.2.2.1.2.2.2 ?_⟩, fun h3 => ?_⟩
        · refine h_56_112 L3 ⟨by omega, ?_⟩
          rw [K2, K3, K4]
          refine rc_rk (by omega) L3 (rowk (kgo F3)) (blkk (kgo F3) _ _ (r1 h3)) (words F3) ebd (fun M4 F4 => ?_)
          exact at115 ht M4 (nm_Fr_trans F3 F4) _ (by unfold rd_m; rw [if_neg h3]) (enc_ne _ _ (r1 h3)) _ _ _
        · exact at115 ht M3 F3 (some 0) (by unfold rd_m; rw [if_pos (by omega)]) (fun v hv => by cases hv; decide) _ _ _
      have F22 : nm_Fr nm_kg M2 M2 := nm_Fg_refl _ _
      obtain ⟨K1, K2, K3, K4⟩ := keepT (kgo F22)
      refine h_56_62 (nm_C_L C2) ⟨fun h6 => ?_, fun h6 => ⟨K1.2.2.1, by omega, ?_⟩⟩
      · have ht : rd_tg c.2.2.2.2 e = some 1 := by
          rcases r4 with ⟨a1, a2⟩ | ⟨g, a1, a2, a3⟩
          · rw [a1]; rfl
          · omega
        exact first ht M2 F22 _ _ _
      · rcases r4 with ⟨a1, a2⟩ | ⟨g, a1, a2, a3⟩
        · omega
        · rw [K2, hx6]
          refine rc_rk (by omega) (nm_C_L C2) (rowk (kgo F22)) (blkk (kgo F22) _ _ a3) (words F22) ebd (fun M3 F3 => ?_)
          have L3 : nm_Lay M3 := nm_Lay_fr (nm_C_L C2) F3 (by decide +kernel)
          have etg : rd_tg c.2.2.2.2 = g := by rw [a1]; rfl
          rw [← hx6]
          refine h_56_81 L3 ⟨fun h1 => ?_, fun h1 => ?_⟩
          · have hg1 : g e = some 1 := by
              cases hge : g e with
              | none => rw [hge] at h1; exact absurd h1 (by decide)
              | some v => rw [hge] at h1; have h1' : v = 1 := h1; rw [h1']
            exact first (by rw [etg]; exact hg1) M3 F3 _ _ _
          · have hg1 : g e ≠ some 1 := fun hge => h1 (by rw [hge]; rfl)
            have hon : rd_on X1 c dn md = some (X1, dn, md) := by unfold rd_on; rw [he, etg, if_pos hg1]
            have rep := step _ hon
            have C3 := nm_C_fr C2 F3 (by decide +kernel)
            have K := keepT (kgo F3)
            rw [wj]
            exact ih (j + 1) X1 dn md M3 _ _ _ x6 (by omega) (by omega) sm1 ok1 d0 (by omega) m0 m1 (nm_Fr_trans F2' (nm_Fr_sub F3 (by decide +kernel))) C3 (by rw [K.2.2.1, K.2.2.2]; exact hx6) (fun h => hN (by rw [rep]; exact h)) (fun X2 dn2 md2 M5 l6 l7 l8 l9 l10 h => hS X2 dn2 md2 M5 l6 l7 l8 l9 l10 (by rw [rep]; exact h))
  -- all clauses
  have outer : ∀ (m : Nat) (k : Nat) (X1 : nm_X) (dn md : Int) (M1 : am_M) (l5 l6 l7 l8 l9 l10 : am_V), cs.length - k ≤ m → k ≤ cs.length → rd_sm X X1 → nm_ok X1 → 0 ≤ dn → dn ≤ 20 * (k : Int) → -1 ≤ md → md ≤ 48 → nm_Fr rc_og M M1 → nm_C M1 X1 → rd_all cs 0 (X, 0, -1) = rd_all (cs.drop k) (k : Int) (X1, dn, md) → am_WP d am_c56 7 [(2, 0), (2, t), (0, dn), (0, md), (0, (k : Int)), l5, l6, l7, l8, l9, l10] [] M1 Q := by
    intro m
    induction m with
    | zero =>
      intro k X1 dn md M1 l5 l6 l7 l8 l9 l10 hm hk sm1 ok1 d0 d1 m0 m1 F1 C1 heq
      have T1 := rc_T_fr hT F1 (by decide +kernel)
      obtain rfl : k = cs.length := by omega
      rw [List.drop_length] at heq
      refine h_56_7 (nm_C_L C1) ⟨T1.2.2.1, fun _ => hK X1 dn md M1 heq sm1 ok1 d0 F1 C1, fun h => absurd ?_ h⟩
      rw [T1.2.2.2.1]; exact Int.le_refl _
    | succ m ih =>
      intro k X1 dn md M1 l5 l6 l7 l8 l9 l10 hm hk sm1 ok1 d0 d1 m0 m1 F1 C1 heq
      have T1 := rc_T_fr hT F1 (by decide +kernel)
      have L1 := nm_C_L C1
      obtain ⟨q1, q2, q3, q4, q5, q6, q7, q8, q9⟩ := T1
      by_cases hke : k = cs.length
      · subst hke
        rw [List.drop_length] at heq
        refine h_56_7 L1 ⟨q3, fun _ => hK X1 dn md M1 heq sm1 ok1 d0 F1 C1, fun h => absurd ?_ h⟩
        rw [q4]; exact Int.le_refl _
      · have hlt : k < cs.length := by omega
        have hdrop : cs.drop k = cs.getD k rd_c0 :: cs.drop (k + 1) := by
          rw [List.getD_eq_getElem?_getD, List.getElem?_eq_getElem hlt]
          exact List.drop_eq_getElem_cons hlt
        have hmem : cs.getD k rd_c0 ∈ cs := by rw [List.getD_eq_getElem?_getD, List.getElem?_eq_getElem hlt]; exact List.getElem_mem hlt
        obtain ⟨r0, r1, r2, r3, r4⟩ := q9 k hlt
        rw [hdrop] at heq
        simp only [rd_all] at heq
        have hco := hcok _ hmem
        generalize hcd : cs.getD k rd_c0 = c at *
        refine h_56_7 L1 ⟨q3, fun h => absurd h (by rw [q4]; omega), fun _ => ⟨by omega, nmc_125 q3 q7.2.2.1 (by omega) (by omega) q7.2.2.2 ?_⟩⟩
        rw [r0]
        refine h_56_22 L1 ⟨q3, by omega, nmc_129 q3 q7.2.2.1 (by omega) (by omega) q7.2.2.2 (h_56_30 L1 ?_)⟩
        refine inner k c hlt hcd hco c.2.2.2.1.toNat 0 X1 dn md M1 _ _ _ _ (by have := hco.2.1; omega) (Int.le_refl _) sm1 ok1 d0 (by omega) m0 m1 F1 C1 rfl (fun h => by rw [heq, h]) (fun X2 dn2 md2 M2 l6 l7 l8 l9 l10 h sm2 ok2 e0 e1 g0 g1 F2 C2 => ?_)
        rw [h] at heq
        have := ih (k + 1) X2 dn2 md2 M2 (0, c.1) l6 l7 l8 l9 l10 (by omega) (by omega) sm2 ok2 e0 (by omega) g0 g1 F2 C2 (by rw [show ((k + 1 : Nat) : Int) = (k : Int) + 1 by omega]; exact heq)
        rw [show ((k + 1 : Nat) : Int) = (k : Int) + 1 by omega] at this
        exact this
  exact h_56_0 (nm_C_L hC) (outer _ 0 X 0 (-1) M _ _ _ _ _ _ (Nat.le_refl _) (Nat.zero_le _) (rd_sm_r X) hok (by decide) (by decide) (by decide) (by decide) (nm_Fg_refl _ _) hC rfl)
