/-! THE REFERENCE RUNS AN ORDER -/
theorem nm_Fr_drop {f : nm_Rg} {M M' : am_M} {a i : Int} (F : nm_Fr ((a, i, i + 1) :: f) M M') (e : am_gt M' a i = am_gt M a i) : nm_Fr f M M' := by
  obtain ⟨a1, a2, a3, a4, a5⟩ := F
  refine ⟨a1, a2, a3, a4, fun b j hb hj => ?_⟩
  by_cases h : b = a ∧ j = i
  · rw [h.1, h.2]; exact e
  · refine a5 b j hb ?_
    rw [Bool.eq_false_iff]
    intro hi
    obtain ⟨q, hq, e1, e2, e3⟩ := nm_in_iff.mp hi
    rcases List.mem_cons.mp hq with rfl | hq
    · simp only at e1 e2 e3; omega
    · rw [nm_in_mem hq e1 e2 e3] at hj; cases hj
abbrev rm_q : nm_Rg := [(234, 0, 400), (214, 38, 40), (214, 55, 56)]
/-- the words of orders, and that the works are the state's -/
def rm_wd4 (M : am_M) (X : nm_X) (dn md : Int) : Prop := am_gt M 233 1 = (nx_W X).1 ∧ am_gt M 233 2 = dn ∧ am_gt M 233 3 = md ∧ am_gt M 233 4 = ((nx_W X).2.1.length : Int)
theorem rm_251 {d : Nat} {a i j dn md : Int} {f : rd_F} {X : nm_X} {M : am_M} {Q : List am_V → am_M → Prop} (hd : 5 ≤ d) (hM : nm_M M X) (hok : nm_ok X) (b1 : nm_bd dn) (b2 : nm_bd md) (a0 : 0 ≤ a) (a1 : a + 1 < 96) (h55 : am_gt M 214 55 = 0) (hi : am_gt M 245 a = i) (hj : am_gt M 245 (a + 1) = j) (hb : rm_blk M 1 i j 400 f) (hw : rm_wd4 M X dn md)
    (hN : f (rd_oe (nx_S X) (nx_W X) dn md) = none → ∀ r M', nm_Fr rm_q M M' → am_gt M' 214 55 = 1 → Q [(0, r)] M')
    (hS : ∀ v, f (rd_oe (nx_S X) (nx_W X) dn md) = some v → ∀ M', nm_Fr rm_q M M' → am_gt M' 214 55 = 0 → Q [(0, v)] M') : am_CL d 251 [(2, 214), (0, a)] M Q := by
  have hL : nm_Lay M := hM.1.1
  have lt := rm_B_lt hb.1
  have hW := hM.1.2.2.1
  have o0 := hok.1.1.1
  have w6 := hW.2.2.1
  have ebd := rd_oe_bd hok b1 b2 w6
  have m20 : am_gt M 214 20 = 0 := hM.1.2.2.2.2.2
  have s0 : am_gt M 216 0 = nx_S X 0 := hM.1.2.1 0 (.inl ⟨by decide, by decide⟩)
  have w1 : am_w (a + 1) = a + 1 := am_w_id (by omega) (by omega)
  have F0 : nm_Fr [(214, 20, 21)] M (am_st M 214 20 1) := nm_Fr_st (nm_Fg_refl _ _) (by decide)
  have L0 := nm_Lay_fr hL F0 (by decide +kernel)
  have ga : ∀ b k, b ≠ 214 → am_gt (am_st M 214 20 1) b k = am_gt M b k := fun b k h => nm_st_ne h
  have hold : nm_mhold 1 (am_gt M 225) (am_gt M 226) i j (rd_oe (nx_S X) (nx_W X) dn md) (am_st M 214 20 1) := by
    refine ⟨L0, nm_st_eq, hb.2.1, hb.2.2, fun k x y => ebd k x y, .inr ⟨rfl, fun k x y => ⟨ga _ _ (by decide), ga _ _ (by decide)⟩⟩, .inr ⟨rfl, fun w x y => ?_, ?_, fun m x y => ?_, fun p x y => ?_⟩⟩
    · rw [ga _ _ (by decide)]
      have : w = 0 ∨ w = 1 ∨ w = 2 ∨ w = 3 := by omega
      rcases this with rfl | rfl | rfl | rfl
      · exact hw.1
      · exact hw.2.1
      · exact hw.2.2.1
      · exact hw.2.2.2
    · rw [ga _ _ (by decide), s0]; exact o0
    · have ev : rd_oe (nx_S X) (nx_W X) dn md (4 + m) = if m < nx_S X 0 then (nx_W X).2.2.1 m else -1 := by
        unfold rd_oe
        rw [if_neg (by omega), if_neg (by omega), if_neg (by omega), if_neg (by omega), if_pos (by omega), show 4 + m - 4 = m by omega]
      rw [ga _ _ (by decide), ga _ _ (by decide), s0, hW.2.2.2.2.1 m x y, ev]
    · rw [ga _ _ (by decide), hW.2.2.2.2.2 p x y]
      unfold rd_oe
      rw [if_neg (by omega), if_neg (by omega), if_neg (by omega), if_neg (by omega), if_neg (by omega), show 10 + p - 10 = p by omega]
  refine h_251_0 hL ⟨fun h => absurd h55 h, fun _ => ?_⟩
  rw [w1, hi, hj]
  refine ⟨by omega, by omega, by omega, by omega, fun _ => ⟨by omega, nm_m204 (by omega) hb.1 (by have := hb.2.1; have := hb.2.2; omega) hold (fun M1 F1 z1 z2 => ?_)⟩, fun h => absurd (by omega) h⟩
  have L1 := nm_Lay_fr L0 F1 (by decide +kernel)
  have FF : ∀ v, nm_Fr ((214, 20, 20 + 1) :: rm_q) M (am_st (am_st M1 214 20 0) 214 55 v) := fun v => nm_Fr_st (nm_Fr_st (nm_Fr_trans (nm_Fr_sub F0 (by decide)) (nm_Fr_sub F1 (by decide))) (by decide)) (by decide)
  have FQ : ∀ v, nm_Fr rm_q M (am_st (am_st M1 214 20 0) 214 55 v) := fun v => nm_Fr_drop (FF v) (by rw [nm_st_nj (by decide), nm_st_eq, m20])
  cases hf : f (rd_oe (nx_S X) (nx_W X) dn md) with
  | none =>
    have z := z1 hf
    refine h_251_49 L1 ⟨.inr z, ?_⟩
    rw [z]
    exact hN hf _ _ (FQ 1) nm_st_eq
  | some v =>
    obtain ⟨z, zv⟩ := z2 v hf
    have bv := hb.1.2.2.1 _ (fun k x y => ebd k x y) v hf
    refine h_251_49 L1 ⟨.inl z, ?_⟩
    rw [z, zv, am_w_id (by have := bv.1; omega) (by have := bv.2; omega)]
    exact hS v hf _ (FQ 0) nm_st_eq
theorem rm_251e {d : Nat} {a : Int} {M : am_M} {Q : List am_V → am_M → Prop} (hL : nm_Lay M) (a0 : 0 ≤ a) (a1 : a + 1 < 96) (h : am_gt M 214 55 ≠ 0 ∨ am_gt M 245 a = am_gt M 245 (a + 1)) (hQ : Q [(0, -1)] M) : am_CL d 251 [(2, 214), (0, a)] M Q := by
  have w1 : am_w (a + 1) = a + 1 := am_w_id (by omega) (by omega)
  refine h_251_0 hL ⟨fun _ => hQ, fun h2 => ?_⟩
  rw [w1]
  refine ⟨by omega, by omega, by omega, by omega, fun h3 => ?_, fun _ => hQ⟩
  rcases h with h | h
  · exact absurd h h2
  · exact absurd h h3
theorem rm_252 {d : Nat} {k m b : Int} {X : nm_X} {M : am_M} {Q : List am_V → am_M → Prop} (hd : 13 ≤ d) (hk : 0 ≤ k ∧ k ≤ 3) (hM : nm_M M X) (hok : nm_ok X) (hQ : ∀ M', nm_Fr nm_chM M M' → nm_M M' (nm_ch X k m b).1 → Q [(0, (nm_ch X k m b).2)] M') : am_CL d 252 [(2, 214), (0, k), (0, m), (0, b)] M Q := by
  have hL : nm_Lay M := hM.1.1
  refine h_252_0 hL ⟨fun h => ⟨by omega, ?_⟩, fun h0 => ⟨fun h => ⟨by omega, ?_⟩, fun h1 => ⟨fun h => ⟨by omega, ?_⟩, fun h2 => ⟨by omega, ?_⟩⟩⟩⟩
  · subst h; exact nmm_214 (b := b) (by omega) hM hok (fun M' F C => h_252_33 C.1.1 (hQ M' F C))
  · subst h; exact nmm_217 (b := b) (by omega) hM hok (fun M' F C => h_252_39 C.1.1 (hQ M' F C))
  · subst h; exact nmm_219 (by omega) hM hok (fun M' F C => h_252_46 C.1.1 (hQ M' F C))
  · obtain rfl : k = 3 := by omega
    exact nmm_224 (m := m) (b := b) (by omega) hM hok (fun M' F C => h_252_51 C.1.1 (hQ M' F C))
abbrev rm_rf : nm_Rg := nm_chM ++ [(214, 38, 40), (214, 52, 54), (214, 55, 56), (233, 0, 13), (234, 0, 400)]
theorem rm_253 {d : Nat} {k cl dn md : Int} {c : rd_C} {X : nm_X} {M : am_M} {Q : List am_V → am_M → Prop} (hd : 15 ≤ d) (hM : nm_M M X) (hok : nm_ok X) (b1 : 0 ≤ dn) (b1' : dn ≤ 100000) (b2 : nm_bd md) (k0 : 0 ≤ k) (k1 : k < 12) (c4 : cl ≤ 400) (hoc : rm_oc M cl k c) (hcok : rd_cok c) (h52 : am_gt M 214 52 = dn) (h53 : am_gt M 214 53 = md)
    (hN : rd_on X c dn md = none → ∀ X' M', rd_sm X X' → nm_ok X' → nm_Fr rm_rf M M' → nm_M M' X' → Q [(0, -3)] M')
    (hS : ∀ X2 dn2 md2, rd_on X c dn md = some (X2, dn2, md2) → ∀ M', nm_Fr rm_rf M M' → nm_M M' X2 → am_gt M' 214 52 = dn2 → am_gt M' 214 53 = md2 → Q [(0, 0)] M') : am_CL d 253 [(2, 214), (0, 8 * k)] M Q := by
  have hL : nm_Lay M := hM.1.1
  obtain ⟨⟨kd0, kd3⟩, -, ht01⟩ := hcok
  obtain ⟨q0, q1, q2, q3, q4⟩ := hoc
  have hW := hM.1.2.2.1
  have wg : ∀ x, 0 ≤ x → x ≤ 100 → am_w x = x := fun x h1 h2 => am_w_id (by omega) (by omega)
  have Fs : ∀ (M1 : am_M) (i v : Int), nm_Fr rm_rf M M1 → 0 ≤ i → i < 13 → nm_Fr rm_rf M (am_st M1 233 i v) := fun M1 i v F h1 h2 => nm_Fst F (lo := 0) (hi := 13) (by decide) h1 h2
  have A1 := Fs M 1 (nx_W X).1 (nm_Fg_refl _ _) (by decide) (by decide)
  have A2 := Fs _ 2 dn A1 (by decide) (by decide)
  have A3 := Fs _ 3 md A2 (by decide) (by decide)
  have A4 := Fs _ 4 ((nx_W X).2.1.length : Int) A3 (by decide) (by decide)
  have lay : ∀ {M'}, nm_Fr rm_rf M M' → nm_Lay M' := fun F => nm_Lay_fr hL F (by decide +kernel)
  refine h_253_0 hL ?_
  rw [hW.1]
  refine h_253_13 (lay A1) ?_
  rw [nm_st_ne (by decide), h52]
  refine h_253_24 (lay A2) ?_
  rw [nm_st_ne (by decide), nm_st_ne (by decide), h53]
  refine h_253_35 (lay A3) ?_
  have e216 : am_gt (am_st (am_st (am_st M 233 1 (nx_W X).1) 233 2 dn) 233 3 md) 216 8 = ((nx_W X).2.1.length : Int) := by rw [nm_st_ne (by decide), nm_st_ne (by decide), nm_st_ne (by decide)]; exact hW.2.1
  have e245 : ∀ i, am_gt (am_st (am_st (am_st M 233 1 (nx_W X).1) 233 2 dn) 233 3 md) 245 i = am_gt M 245 i := fun i => by rw [nm_st_ne (by decide), nm_st_ne (by decide), nm_st_ne (by decide)]
  rw [e216, e245, e245, wg (8 * k + 5) (by omega) (by omega), wg (8 * k + 6) (by omega) (by omega), wg (8 * k + 1) (by omega) (by omega)]
  have A5 : nm_Fr rm_rf M (am_st (am_st (am_st (am_st (am_st M 233 1 (nx_W X).1) 233 2 dn) 233 3 md) 233 4 ((nx_W X).2.1.length : Int)) 214 55 0) := nm_Fr_st A4 (by decide)
  have A5' : nm_Fr [(233, 0, 13), (214, 55, 56)] M (am_st (am_st (am_st (am_st (am_st M 233 1 (nx_W X).1) 233 2 dn) 233 3 md) 233 4 ((nx_W X).2.1.length : Int)) 214 55 0) := nm_Fr_st (nm_Fst (nm_Fst (nm_Fst (nm_Fst (nm_Fg_refl _ _) (lo := 0) (hi := 13) (by decide) (by decide) (by decide)) (lo := 0) (hi := 13) (by decide) (by decide) (by decide)) (lo := 0) (hi := 13) (by decide) (by decide) (by decide)) (lo := 0) (hi := 13) (by decide) (by decide) (by decide)) (by decide)
  have wd5 : rm_wd4 (am_st (am_st (am_st (am_st (am_st M 233 1 (nx_W X).1) 233 2 dn) 233 3 md) 233 4 ((nx_W X).2.1.length : Int)) 214 55 0) X dn md := by
    refine ⟨?_, ?_, ?_, ?_⟩ <;> simp only [nm_gt_st, Int.reduceEq, false_and, and_true, and_false, if_false, if_true]
  have z55 : am_gt (am_st (am_st (am_st (am_st (am_st M 233 1 (nx_W X).1) 233 2 dn) 233 3 md) 233 4 ((nx_W X).2.1.length : Int)) 214 55 0) 214 55 = 0 := nm_st_eq
  have k45 : ∀ i, am_gt (am_st (am_st (am_st (am_st (am_st M 233 1 (nx_W X).1) 233 2 dn) 233 3 md) 233 4 ((nx_W X).2.1.length : Int)) 214 55 0) 245 i = am_gt M 245 i := fun i => nm_gt_frn A5' hL (by decide) (by decide)
  have M5 := nm_M_fr hok hM A5' (by decide +kernel)
  have kc5 : ∀ z, am_gt (am_st (am_st (am_st (am_st (am_st M 233 1 (nx_W X).1) 233 2 dn) 233 3 md) 233 4 ((nx_W X).2.1.length : Int)) 214 55 0) 225 z = am_gt M 225 z ∧ am_gt (am_st (am_st (am_st (am_st (am_st M 233 1 (nx_W X).1) 233 2 dn) 233 3 md) 233 4 ((nx_W X).2.1.length : Int)) 214 55 0) 226 z = am_gt M 226 z := fun z => ⟨nm_gt_frn A5' hL (by decide) (by decide), nm_gt_frn A5' hL (by decide) (by decide)⟩
  generalize hMA : am_st (am_st (am_st (am_st (am_st M 233 1 (nx_W X).1) 233 2 dn) 233 3 md) 233 4 ((nx_W X).2.1.length : Int)) 214 55 0 = MA at A5 A5' wd5 z55 k45 M5 kc5 ⊢
  have LA := lay A5
  -- what stays while sums are reckoned
  have kq : ∀ {M' : am_M}, nm_Fr rm_q MA M' → nm_Fr rm_rf M M' ∧ nm_M M' X ∧ rm_wd4 M' X dn md ∧ (∀ i, am_gt M' 245 i = am_gt M 245 i) ∧ (∀ z, am_gt M' 225 z = am_gt M 225 z ∧ am_gt M' 226 z = am_gt M 226 z) ∧ am_gt M' 214 52 = dn ∧ am_gt M' 214 53 = md := by
    intro M' F
    have FF : nm_Fr ([(233, 0, 13), (214, 55, 56)] ++ rm_q) M M' := nm_Fr_trans (nm_Fr_appl A5') (nm_Fr_appr F)
    refine ⟨nm_Fr_trans A5 (nm_Fr_sub F (by decide +kernel)), nm_M_fr hok M5 F (by decide +kernel), ?_, fun i => nm_gt_frn FF hL (by decide) (by decide), fun z => ⟨nm_gt_frn FF hL (by decide) (by decide), nm_gt_frn FF hL (by decide) (by decide)⟩, (nm_gt_frd (g := [(214, 52, 53)]) FF hL (by decide) (by decide) (by decide)).trans h52, (nm_gt_frd (g := [(214, 53, 54)]) FF hL (by decide) (by decide) (by decide)).trans h53⟩
    obtain ⟨x1, x2, x3, x4⟩ := wd5
    exact ⟨(nm_gt_frn F LA (by decide) (by decide)).trans x1, (nm_gt_frn F LA (by decide) (by decide)).trans x2, (nm_gt_frn F LA (by decide) (by decide)).trans x3, (nm_gt_frn F LA (by decide) (by decide)).trans x4⟩
  have bdn : nm_bd dn := ⟨by omega, by omega⟩
  have blk : ∀ {M' : am_M}, nm_Fr rm_q MA M' → ∀ i j f, rm_blk M 1 i j cl f → rm_blk M' 1 i j 400 f := fun F i j f h => rm_blk_m h (fun z _ _ => (kq F).2.2.2.2.1 z) c4
  generalize he : rd_oe (nx_S X) (nx_W X) dn md = e
  have ont : rd_tg c.2.2.2.2 e = some 1 → rd_on X c dn md = (match rd_m c e with
    | none => none
    | some m => match rd_b c e with
      | none => none
      | some b => rd_one X c dn md m b) := by
    intro ht
    unfold rd_on
    rw [he, if_neg (fun h => h ht)]; rfl
  -- both sums are there, or one is broken
  have at110 : ∀ (M6 : am_M) (mo bo : Option Int) (m b : Int), rd_tg c.2.2.2.2 e = some 1 → rd_m c e = mo → rd_b c e = bo → nm_Fr rm_q MA M6 → ((am_gt M6 214 55 = 1 ∧ (mo = none ∨ bo = none)) ∨ (am_gt M6 214 55 = 0 ∧ (∃ m' b', mo = some m' ∧ bo = some b' ∧ nm_ch X c.1 m b = nm_ch X c.1 m' b'))) → am_WP d am_c253 110 [(2, 214), (0, 8 * k), (0, m), (9, 0), (9, 0)] [(0, b)] M6 Q := by
    intro M6 mo bo m b ht hmo hbo F6 hcase
    obtain ⟨R1, R2, R3, R4, R5, R6, R7⟩ := kq F6
    have on1 := ont ht
    rw [hmo] at on1
    refine h_253_110 R2.1.1 ⟨fun h55 => ?_, fun h55 => ?_⟩
    · rcases hcase with ⟨x, -⟩ | ⟨-, m', b', e1, e2, e3⟩
      · omega
      · rw [e1] at on1
        simp only [hbo, e2] at on1
        rw [R4, q0]
        refine ⟨by omega, by omega, by omega, rm_252 (by omega) ⟨kd0, kd3⟩ R2 hok (fun M7 F7 C7 => ?_)⟩
        rw [e3] at C7
        have F7' : nm_Fr rm_rf M M7 := nm_Fr_trans R1 (nm_Fr_appl F7)
        have g245 : am_gt M7 245 (8 * k) = c.1 := (nm_gt_frn F7 R2.1.1 (by decide) (by decide +kernel)).trans ((R4 _).trans q0)
        have g52 : am_gt M7 214 52 = dn := (nm_gt_frd (g := [(214, 52, 53)]) F7 R2.1.1 (by decide) (by decide +kernel) (by decide)).trans R6
        have g53 : am_gt M7 214 53 = md := (nm_gt_frd (g := [(214, 53, 54)]) F7 R2.1.1 (by decide) (by decide +kernel) (by decide)).trans R7
        rw [e3]
        have ok7 := nm_ok_ch (m := m') (b := b') ⟨kd0, kd3⟩ hok
        unfold rd_one at on1
        refine h_253_133 C7.1.1 ⟨fun hv => ⟨by omega, by omega, ?_⟩, fun hv => ?_⟩
        · rw [if_neg (by omega)] at on1
          rw [g245, g52, g53, am_w_id (x := dn + 1) (by omega) (by omega)]
          have fin : ∀ v, v = (if c.1 = 3 then (nm_ch X c.1 m' b').2 else md) → Q [(0, 0)] (am_st (am_st M7 214 53 v) 214 52 (dn + 1)) := by
            intro v hv2
            have F8 : nm_Fr [(214, 52, 54)] M7 (am_st (am_st M7 214 53 v) 214 52 (dn + 1)) := nm_Fr_st (nm_Fr_st (nm_Fg_refl _ _) (by decide)) (by decide)
            refine hS _ _ _ on1 _ (nm_Fr_trans F7' (nm_Fr_sub F8 (by decide +kernel))) (nm_M_fr ok7 C7 F8 (by decide +kernel)) nm_st_eq ?_
            rw [nm_st_nj (by decide), nm_st_eq]; exact hv2
          exact ⟨fun h3 => fin _ (by rw [if_neg h3]), fun h3 => fin _ (by rw [if_pos (by omega)])⟩
        · rw [if_pos (by omega)] at on1
          exact hN on1 _ M7 (rd_sm_ch (rd_sm_r X)) ok7 F7' C7
    · rcases hcase with ⟨x, y⟩ | ⟨x, -⟩
      · have hnone : rd_on X c dn md = none := by
          rw [on1]
          rcases y with y | y
          · rw [y]
          · cases mo with
            | none => rfl
            | some m'' => simp only [hbo, y]
        exact hN hnone X M6 (rd_sm_r X) hok R1 R2
      · omega
  -- the second sum
  have at102 : ∀ (M6 : am_M) (l2 : am_V) (mo : Option Int) (m : Int), rd_tg c.2.2.2.2 e = some 1 → rd_m c e = mo → nm_Fr rm_q MA M6 → ((am_gt M6 214 55 = 1 ∧ mo = none) ∨ (am_gt M6 214 55 = 0 ∧ ∃ m', mo = some m' ∧ (c.1 ≠ 3 → m = m'))) → am_WP d am_c253 102 [(2, 214), (0, 8 * k), l2, (9, 0), (9, 0)] [(0, m)] M6 Q := by
    intro M6 l2 mo m ht hmo F6 hcase
    obtain ⟨R1, R2, R3, R4, R5, R6, R7⟩ := kq F6
    refine h_253_102 R2.1.1 ⟨by omega, ?_⟩
    rw [wg (8 * k + 3) (by omega) (by omega)]
    rcases hcase with ⟨x, y⟩ | ⟨x, m', y, ym⟩
    · exact rm_251e R2.1.1 (by omega) (by omega) (.inl (by omega)) (at110 M6 mo (rd_b c e) m (-1) ht hmo rfl F6 (.inl ⟨x, .inl y⟩))
    · rcases q2 with ⟨z1, z2⟩ | ⟨z1, z2⟩
      · have hbb : rd_b c e = some 0 := by unfold rd_b; rw [if_neg z1]
        refine rm_251e R2.1.1 (by omega) (by omega) (.inr (by rw [R4, R4, show 8 * k + 3 + 1 = 8 * k + 4 by omega]; exact z2)) (at110 M6 mo _ m (-1) ht hmo hbb F6 (.inr ⟨x, m', 0, y, rfl, ?_⟩))
        by_cases h3 : c.1 = 3
        · rw [h3]; rfl
        · rw [ym h3]
          have h01 : c.1 = 0 ∨ c.1 = 1 := by omega
          exact nm_ch_b h01
      · have hbb : rd_b c e = c.2.2.1 e := by unfold rd_b; rw [if_pos z1]
        refine rm_251 (f := c.2.2.1) (dn := dn) (md := md) (by omega) R2 hok bdn b2 (by omega) (by omega) x rfl rfl (by rw [R4, R4, show 8 * k + 3 + 1 = 8 * k + 4 by omega]; exact blk F6 _ _ _ z2) R3 (fun hf r M7 F7 h55 => ?_) (fun v hf M7 F7 h55 => ?_)
        · rw [he] at hf
          exact at110 M7 mo none m r ht hmo (hbb.trans hf) (nm_Fr_trans F6 F7) (.inl ⟨h55, .inr rfl⟩)
        · rw [he] at hf
          refine at110 M7 mo (some v) m v ht hmo (hbb.trans hf) (nm_Fr_trans F6 F7) (.inr ⟨h55, m', v, y, rfl, ?_⟩)
          rw [ym (by omega)]
  -- the first sum
  have first : ∀ (M6 : am_M) (l2 : am_V), rd_tg c.2.2.2.2 e = some 1 → nm_Fr rm_q MA M6 → am_gt M6 214 55 = 0 → am_CL (d - 1) 251 [(2, 214), (0, 8 * k + 1)] M6 (fun r M' => am_WP d am_c253 102 [(2, 214), (0, 8 * k), l2, (9, 0), (9, 0)] (r ++ []) M' Q) := by
    intro M6 l2 ht F6 x
    obtain ⟨R1, R2, R3, R4, R5, R6, R7⟩ := kq F6
    rcases q1 with ⟨z1, z2⟩ | ⟨z1, z2⟩
    · exact rm_251e R2.1.1 (by omega) (by omega) (.inr (by rw [R4, R4, show 8 * k + 1 + 1 = 8 * k + 2 by omega]; exact z2)) (at102 M6 l2 (some 0) (-1) ht (by unfold rd_m; rw [if_pos z1]) F6 (.inr ⟨x, 0, rfl, fun h => absurd z1 h⟩))
    · have hmm : rd_m c e = c.2.1 e := by unfold rd_m; rw [if_neg z1]
      refine rm_251 (f := c.2.1) (dn := dn) (md := md) (by omega) R2 hok bdn b2 (by omega) (by omega) x rfl rfl (by rw [R4, R4, show 8 * k + 1 + 1 = 8 * k + 2 by omega]; exact blk F6 _ _ _ z2) R3 (fun hf r M7 F7 h55 => ?_) (fun v hf M7 F7 h55 => ?_)
      · rw [he] at hf
        exact at102 M7 l2 none r ht (hmm.trans hf) (nm_Fr_trans F6 F7) (.inl ⟨h55, rfl⟩)
      · rw [he] at hf
        exact at102 M7 l2 (some v) v ht (hmm.trans hf) (nm_Fr_trans F6 F7) (.inr ⟨h55, v, rfl, fun _ => rfl⟩)
  have FA : nm_Fr rm_q MA MA := nm_Fg_refl _ _
  refine ⟨by omega, by omega, by omega, by omega, fun h => ⟨by omega, ?_⟩, fun h => ⟨by omega, ?_⟩⟩
  · have ht : rd_tg c.2.2.2.2 e = some 1 := by
      rcases q3 with ⟨a1, a2⟩ | ⟨g, a1, a2, a3⟩
      · rw [a1]; rfl
      · omega
    exact first MA _ ht FA z55
  · rcases q3 with ⟨a1, a2⟩ | ⟨g, a1, a2, a3⟩
    · omega
    · have etg : rd_tg c.2.2.2.2 = g := by rw [a1]; rfl
      have skip : g e ≠ some 1 → ∀ M7, nm_Fr rm_q MA M7 → Q [(0, 0)] M7 := fun hg M7 F7 => by
        obtain ⟨R1, R2, R3, R4, R5, R6, R7⟩ := kq F7
        exact hS X dn md (by unfold rd_on; rw [he, etg, if_pos hg]) M7 R1 R2 R6 R7
      refine rm_251 (f := g) (dn := dn) (md := md) (by omega) M5 hok bdn b2 (by omega) (by omega) z55 rfl rfl (by rw [k45, k45, show 8 * k + 5 + 1 = 8 * k + 6 by omega]; exact blk FA _ _ _ a3) wd5 (fun hf r M7 F7 h55 => ?_) (fun v hf M7 F7 h55 => ?_)
      · rw [he] at hf
        exact h_253_81 (kq F7).2.1.1.1 ⟨fun _ => skip (by rw [hf]; exact fun q => by cases q) M7 F7, fun h => absurd (by rw [h55]; decide) h⟩
      · rw [he] at hf
        have h01 := ht01 g a1 e v hf
        refine h_253_81 (kq F7).2.1.1.1 ⟨fun h => absurd h55 h, fun _ => ⟨fun hv => ⟨by omega, ?_⟩, fun hv => skip (by rw [hf]; intro q; cases q; omega) M7 F7⟩⟩
        rw [wg (8 * k + 1) (by omega) (by omega)]
        exact first M7 _ (by rw [etg, hf]; congr 1; omega) F7 h55
