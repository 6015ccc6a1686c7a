/-! CLAUSES OF LAWS, THE REFERENCE -/
theorem rm_st_f {f : nm_Rg} {M M' : am_M} {T : tk_T} {o s n cl : Int} (h : rm_st M T o s n cl) (F : nm_Fr f M M') (h1 : nm_lk f = true) (h2 : nm_dj f [(214, 13, 18), (214, 19, 21), (214, 23, 24), (214, 26, 27)] = true) (h3 : nm_no f 223 = true) : rm_st M' T o s n cl := by
  obtain ⟨hL, hTP, hS, g20, g26, g23, g19, rest⟩ := h
  have g : ∀ i, nm_in [(214, 13, 18), (214, 19, 21), (214, 23, 24), (214, 26, 27)] 214 i = true → am_gt M' 214 i = am_gt M 214 i := fun i hi => nm_gt_frd F hL (by decide) h2 hi
  exact ⟨nm_Lay_fr hL F h1, ⟨(g 13 (by decide)).trans hTP.1, fun i a b => (nm_gt_frn F hL (by decide) h3).trans (hTP.2 i a b)⟩, ⟨(g 14 (by decide)).trans hS.1, (g 15 (by decide)).trans hS.2.1, (g 16 (by decide)).trans hS.2.2.1, (g 17 (by decide)).trans hS.2.2.2⟩, (g 20 (by decide)).trans g20, (g 26 (by decide)).trans g26, (g 23 (by decide)).trans g23, (g 19 (by decide)).trans g19, rest⟩
def rm_blk (M : am_M) (o i j cl : Int) (f : rd_F) : Prop := rm_B M o i j f ∧ 0 ≤ i ∧ j ≤ cl
theorem rm_blk_m {M M' : am_M} {o i j cl cl' : Int} {f : rd_F} (h : rm_blk M o i j cl f) (hc : ∀ k, 0 ≤ k → k < cl → am_gt M' 225 k = am_gt M 225 k ∧ am_gt M' 226 k = am_gt M 226 k) (hl : cl ≤ cl') : rm_blk M' o i j cl' f := ⟨rm_B_c h.1 (fun k a b => hc k (by have := h.2.1; omega) (by have := h.2.2; omega)), h.2.1, by have := h.2.2; omega⟩
/-- a clause of a law, as the reference reads it -/
def rm_lc (M : am_M) (cl k : Int) (c : rd_C) : Prop := am_gt M 224 (8 * k) = c.1 ∧ (c.1 ≠ 3 → rm_blk M 0 (am_gt M 224 (8 * k + 3)) (am_gt M 224 (8 * k + 4)) cl c.2.1) ∧ ((c.2.2.2.2 = none ∧ am_gt M 224 (8 * k + 6) ≤ am_gt M 224 (8 * k + 5)) ∨ ∃ g, c.2.2.2.2 = some g ∧ am_gt M 224 (8 * k + 5) < am_gt M 224 (8 * k + 6) ∧ rm_blk M 0 (am_gt M 224 (8 * k + 5)) (am_gt M 224 (8 * k + 6)) cl g)
theorem rm_lc_m {M M' : am_M} {cl cl' k : Int} {c : rd_C} (h : rm_lc M cl k c) (hc : ∀ k, 0 ≤ k → k < cl → am_gt M' 225 k = am_gt M 225 k ∧ am_gt M' 226 k = am_gt M 226 k) (h3 : ∀ i, i < 8 * k + 8 → am_gt M' 224 i = am_gt M 224 i) (hl : cl ≤ cl') : rm_lc M' cl' k c := by
  obtain ⟨a, b, g⟩ := h
  unfold rm_lc
  rw [h3 _ (by omega), h3 _ (by omega), h3 _ (by omega), h3 _ (by omega), h3 _ (by omega)]
  refine ⟨a, fun q => rm_blk_m (b q) hc hl, ?_⟩
  rcases g with g | ⟨g, g1, g2, g3⟩
  · exact .inl g
  · exact .inr ⟨g, g1, g2, rm_blk_m g3 hc hl⟩
abbrev rm_lh : nm_Rg := [(214, 14, 18), (214, 21, 22), (214, 23, 24), (214, 26, 27), (214, 29, 31), (224, 0, 96), (225, 0, 400), (226, 0, 400), (227, 0, 400), (228, 0, 400)]
abbrev rm_lg : nm_Rg := [(214, 14, 20), (214, 21, 22), (214, 23, 24), (214, 26, 27), (214, 29, 31), (224, 0, 96), (225, 0, 400), (226, 0, 400), (227, 0, 400), (228, 0, 400)]
theorem rm_24k {M : am_M} {i v k : Int} (h : k ≠ i) : am_gt (am_st M 224 i v) 224 k = am_gt M 224 k := by rw [nm_gt_st, if_neg (fun q => h q.2)]
theorem rm_24c {M : am_M} {i v a k : Int} (h : a ≠ 224) : am_gt (am_st M 224 i v) a k = am_gt M a k := by rw [nm_gt_st, if_neg (fun q => h q.1)]
theorem rm_st24 {M : am_M} {T : tk_T} {o s n cl i v : Int} (h : rm_st M T o s n cl) (h0 : 0 ≤ i) (h6 : i < 96) : rm_st (am_st M 224 i v) T o s n cl := rm_st_f h (nm_Fst (nm_Fg_refl [(224, 0, 96)] M) (List.mem_singleton.mpr rfl) h0 h6) (by decide +kernel) (by decide) (by decide)
/-- so far in a clause -/
def rm_Z (M M1 : am_M) (cl sz : Int) : Prop := nm_Fr rm_lh M M1 ∧ (∀ k, 0 ≤ k → k < cl → am_gt M1 225 k = am_gt M 225 k ∧ am_gt M1 226 k = am_gt M 226 k) ∧ ∀ k, k < 8 * sz → am_gt M1 224 k = am_gt M 224 k
theorem rm_Z24 {M M1 : am_M} {cl sz i v : Int} (h : rm_Z M M1 cl sz) (h0 : 0 ≤ sz) (h1 : 8 * sz ≤ i) (h6 : i < 96) : rm_Z M (am_st M1 224 i v) cl sz := ⟨nm_Fst h.1 (lo := 0) (hi := 96) (by simp only [List.mem_cons, true_or, or_true]) (by omega) h6, fun k a b => ⟨(rm_24c (by decide)).trans (h.2.1 k a b).1, (rm_24c (by decide)).trans (h.2.1 k a b).2⟩, fun k a => (rm_24k (by omega)).trans (h.2.2 k a)⟩
theorem rm_Z_m {M M1 M2 : am_M} {cl cl1 sz : Int} (hL : nm_Lay M1) (h : rm_Z M M1 cl sz) (mv : rm_mv M1 M2 cl1) (hc : cl ≤ cl1) : rm_Z M M2 cl sz := ⟨nm_Fr_trans h.1 (nm_Fr_sub mv.1 (by decide)), fun k a b => ⟨(mv.2 k a (by omega)).1.trans (h.2.1 k a b).1, (mv.2 k a (by omega)).2.trans (h.2.1 k a b).2⟩, fun k a => (nm_gt_frn mv.1 hL (by decide) (by decide)).trans (h.2.2 k a)⟩
theorem rm_xg_24 {M M1 : am_M} (hL : nm_Lay M) (F : nm_Fr rm_xg M M1) : (∀ k, am_gt M1 224 k = am_gt M 224 k) ∧ am_gt M1 214 21 = am_gt M 214 21 := ⟨fun k => nm_gt_frn F hL (by decide) (by decide), nm_gt_frd (g := [(214, 21, 22)]) F hL (by decide) (by decide) (by decide)⟩
def rd_h0 (ks : List Nat) (x : List Int) : Nat → Int
  | 0 => -1
  | j + 1 => if x = rd_tx (ks.getD j 0) then (j : Int) else rd_h0 ks x j
theorem rd_h0_lk (x : List Int) : rd_h0 rd_ks2 x 4 = rd_lk x := by
  by_cases e0 : x = rd_tx 0
  · subst e0; decide +kernel
  by_cases e1 : x = rd_tx 1
  · subst e1; decide +kernel
  by_cases e2 : x = rd_tx 2
  · subst e2; decide +kernel
  by_cases e3 : x = rd_tx 3
  · subst e3; decide +kernel
  unfold rd_lk
  simp only [rd_h0, List.getD_cons_zero, List.getD_cons_succ, e0, e1, e2, e3, if_false]
theorem rd_h0_ok (x : List Int) : rd_h0 rd_ks3 x 4 = rd_okk x := by
  by_cases e0 : x = rd_tx 4
  · subst e0; decide +kernel
  by_cases e1 : x = rd_tx 5
  · subst e1; decide +kernel
  by_cases e2 : x = rd_tx 6
  · subst e2; decide +kernel
  by_cases e3 : x = rd_tx 7
  · subst e3; decide +kernel
  unfold rd_okk
  simp only [rd_h0, List.getD_cons_zero, List.getD_cons_succ, e0, e1, e2, e3, if_false]
theorem rm_199h {d : Nat} {T : tk_T} {s : Int} {M : am_M} {Q : List am_V → am_M → Prop} (hd : 1 ≤ d) (hL : nm_Lay M) (hS : rm_tk M T s) (h1 : s ≤ T.2) (hQ : am_WP d am_c199 4 [(2, 214), (0, rd_lk (tk_x T s)), (0, 4), (9, 0)] [] M Q) : am_CL d 199 [(2, 214)] M Q := by
  have loop : ∀ (n j : Nat) (v : Int), 4 - j ≤ n → j ≤ 4 → v = rd_h0 rd_ks2 (tk_x T s) j → am_WP d am_c199 4 [(2, 214), (0, v), (0, (j : Int)), (9, 0)] [] M Q := by
    have done : ∀ v, v = rd_h0 rd_ks2 (tk_x T s) 4 → am_WP d am_c199 4 [(2, 214), (0, v), (0, 4), (9, 0)] [] M Q := fun v hv => by
      rw [hv, rd_h0_lk]; exact hQ
    intro n
    induction n with
    | zero =>
      intro j v hn hj hv
      obtain rfl : j = 4 := by omega
      exact done v hv
    | succ n ih =>
      intro j v hn hj hv
      by_cases hj4 : j = 4
      · subst hj4; exact done v hv
      · have w1 : am_w ((j : Int) + 1) = ((j + 1 : Nat) : Int) := by rw [am_w_id (by omega) (by omega)]; omega
        have nx := ih (j + 1)
        refine h_199_4 hL ⟨fun h => absurd h (by omega), fun _ => ⟨by omega, by omega, hd, rm_177 (rd_ks2.getD j 0) (rm_tb231 hL j (by omega)) hL hS h1 (h_199_19 hL ?_)⟩⟩
        rw [w1]
        by_cases e : tk_x T s = rd_tx (rd_ks2.getD j 0)
        · rw [if_pos e]
          exact ⟨fun h => absurd h (by decide), fun _ => nx (j : Int) (by omega) (by omega) (if_pos e).symm⟩
        · rw [if_neg e]
          exact ⟨fun _ => nx v (by omega) (by omega) (hv.trans (if_neg e).symm), fun h => absurd rfl h⟩
  exact h_199_0 hL (loop 4 0 (-1) (by decide) (by decide) rfl)
theorem rm_199 {d : Nat} {T : tk_T} {s n cl sz : Int} {M : am_M} {Q : List am_V → am_M → Prop} (hd : 10 ≤ d) (hT : tk_ok T) (z0 : 0 ≤ sz) (z1 : sz ≤ 12) (hst : rm_st M T 0 s n cl) (gsz : am_gt M 214 21 = sz) (hcl : cl ≤ s)
    (hE : ∀ p M', rd_cls T 0 s n sz = .error p → nm_Fr rm_lg M M' → nm_Lay M' → am_gt M' 214 19 = 1 → am_gt M' 214 18 = p → Q [] M')
    (hK : ∀ c s4 n4 M' cl', rd_cls T 0 s n sz = .ok (c, s4, n4) → rm_Z M M' cl sz → rm_st M' T 0 s4 n4 cl' → am_gt M' 214 21 = sz + 1 → cl ≤ cl' → cl' ≤ s4 → rm_lc M' cl' sz c → Q [] M') : am_CL d 199 [(2, 214)] M Q := by
  have t4 := hT.2.1
  have hst' := hst
  obtain ⟨hL, hTP, hS, g20, g26, g23, g19, s0, s1, n0, n5, c0⟩ := hst'
  have he := tk_se s1
  have kd0 : ∀ x, rd_kd 0 x = rd_lk x := fun x => by unfold rd_kd; rw [if_pos rfl]
  -- the end of a clause
  have fin : ∀ (M2 : am_M) (kd : Int) (f : rd_F) (t : Option rd_F) (s4 n4 cl2 x3 : Int), rd_cls T 0 s n sz = .ok ((kd, f, rd_0, 1, t), s4, n4) → rm_Z M M2 cl sz → rm_st M2 T 0 s4 n4 cl2 → cl ≤ cl2 → cl2 ≤ s4 → sz < 12 → am_gt M2 214 21 = sz + 1 → am_gt M2 224 (8 * sz) = kd → (kd ≠ 3 → rm_blk M2 0 (am_gt M2 224 (8 * sz + 3)) (am_gt M2 224 (8 * sz + 4)) cl2 f) → ((t = none ∧ am_gt M2 224 (8 * sz + 5) = cl2) ∨ ∃ g, t = some g ∧ rm_blk M2 0 (am_gt M2 224 (8 * sz + 5)) cl2 cl2 g) → am_WP d am_c199 185 [(2, 214), (0, kd), (0, 8 * sz), (0, x3)] [] M2 Q := by
    intro M2 kd f t s4 n4 cl2 x3 hok Z2 st2 hc2 hs2 hz21 b21 b0 b1 bt
    have w6 : am_w (8 * sz + 6) = 8 * sz + 6 := am_w_id (by omega) (by omega)
    refine h_199_185 st2.1 ?_
    rw [w6, st2.2.2.2.2.2.1]
    refine ⟨by omega, by omega, hK _ s4 n4 _ cl2 hok (rm_Z24 Z2 z0 (by omega) (by omega)) (rm_st24 st2 (by omega) (by omega)) ((rm_24c (by decide)).trans b21) hc2 hs2 ?_⟩
    have kc : ∀ k, 0 ≤ k → k < cl2 → am_gt (am_st M2 224 (8 * sz + 6) cl2) 225 k = am_gt M2 225 k ∧ am_gt (am_st M2 224 (8 * sz + 6) cl2) 226 k = am_gt M2 226 k := fun k _ _ => ⟨rm_24c (by decide), rm_24c (by decide)⟩
    unfold rm_lc
    rw [rm_24k (k := 8 * sz) (by omega), rm_24k (k := 8 * sz + 3) (by omega), rm_24k (k := 8 * sz + 4) (by omega), rm_24k (k := 8 * sz + 5) (by omega), show am_gt (am_st M2 224 (8 * sz + 6) cl2) 224 (8 * sz + 6) = cl2 by rw [nm_gt_st, if_pos ⟨rfl, rfl⟩]]
    refine ⟨b0, fun q => rm_blk_m (b1 q) kc (Int.le_refl _), ?_⟩
    rcases bt with ⟨e1, e2⟩ | ⟨g, e1, e2⟩
    · exact .inl ⟨e1, by omega⟩
    · exact .inr ⟨g, e1, rm_B_lt e2.1, rm_blk_m e2 kc (Int.le_refl _)⟩
  have bad185 : ∀ (p : Int) (M2 : am_M) (kd x3 : Int), rd_cls T 0 s n sz = .error p → sz < 12 → nm_Fr rm_lg M M2 → nm_Lay M2 → am_gt M2 214 19 = 1 → am_gt M2 214 18 = p → am_WP d am_c199 185 [(2, 214), (0, kd), (0, 8 * sz), (0, x3)] [] M2 Q := by
    intro p M2 kd x3 herr hsz F2 L2 b19 b18
    have w6 : am_w (8 * sz + 6) = 8 * sz + 6 := am_w_id (by omega) (by omega)
    refine h_199_185 L2 ?_
    rw [w6]
    have F3 : nm_Fr rm_lg M (am_st M2 224 (8 * sz + 6) (am_gt M2 214 23)) := nm_Fst F2 (lo := 0) (hi := 96) (by simp only [List.mem_cons, true_or, or_true]) (by omega) (by omega)
    exact ⟨by omega, by omega, hE p _ herr F3 (nm_Lay_fr hL F3 (by decide +kernel)) ((rm_24c (by decide)).trans b19) ((rm_24c (by decide)).trans b18)⟩
  -- behind the sum
  have at135 : ∀ (M2 : am_M) (kd : Int) (f : rd_F) (s2 n2 cl2 x3 : Int), rd_cls T 0 s n sz = rd_c2 T 0 kd f s2 n2 → rm_Z M M2 cl sz → rm_st M2 T 0 s2 n2 cl2 → cl ≤ cl2 → cl2 ≤ s2 → sz < 12 → am_gt M2 214 21 = sz + 1 → am_gt M2 224 (8 * sz) = kd → am_gt M2 224 (8 * sz + 3) = cl → (kd ≠ 3 → rm_B M2 0 cl cl2 f) → am_WP d am_c199 135 [(2, 214), (0, kd), (0, 8 * sz), (0, x3)] [] M2 Q := by
    intro M2 kd f s2 n2 cl2 x3 heq Z2 st2 hc2 hs2 hsz b21 b0 b3 bB
    have s24 := st2.2.2.2.2.2.2.2.2.1
    have s20 := st2.2.2.2.2.2.2.2.1
    have he2 := tk_se s24
    have heq4 : rd_cls T 0 s n sz = rd_c4 T 0 kd f rd_0 1 s2 n2 := by
      rw [heq]; unfold rd_c2 rd_snd; rw [if_neg (fun q => q.1 rfl)]
      simp only
      unfold rd_c3 rd_tim; rw [if_neg (fun q => q.1 rfl)]
    have w4 : am_w (8 * sz + 4) = 8 * sz + 4 := am_w_id (by omega) (by omega)
    have w5 : am_w (8 * sz + 5) = 8 * sz + 5 := am_w_id (by omega) (by omega)
    have st3 := rm_st24 (i := 8 * sz + 5) (v := cl2) (rm_st24 (i := 8 * sz + 4) (v := cl2) st2 (by omega) (by omega)) (by omega) (by omega)
    have Z3 := rm_Z24 (i := 8 * sz + 5) (v := cl2) (rm_Z24 (i := 8 * sz + 4) (v := cl2) Z2 z0 (by omega) (by omega)) z0 (by omega) (by omega)
    have k24 : ∀ k, k < 8 * sz + 4 → am_gt (am_st (am_st M2 224 (8 * sz + 4) cl2) 224 (8 * sz + 5) cl2) 224 k = am_gt M2 224 k := fun k hk => (rm_24k (by omega)).trans (rm_24k (by omega))
    have v4 : am_gt (am_st (am_st M2 224 (8 * sz + 4) cl2) 224 (8 * sz + 5) cl2) 224 (8 * sz + 4) = cl2 := (rm_24k (by omega)).trans (by rw [nm_gt_st, if_pos ⟨rfl, rfl⟩])
    have v5 : am_gt (am_st (am_st M2 224 (8 * sz + 4) cl2) 224 (8 * sz + 5) cl2) 224 (8 * sz + 5) = cl2 := by rw [nm_gt_st, if_pos ⟨rfl, rfl⟩]
    have kc3 : ∀ k, am_gt (am_st (am_st M2 224 (8 * sz + 4) cl2) 224 (8 * sz + 5) cl2) 225 k = am_gt M2 225 k ∧ am_gt (am_st (am_st M2 224 (8 * sz + 4) cl2) 224 (8 * sz + 5) cl2) 226 k = am_gt M2 226 k := fun k => ⟨(rm_24c (by decide)).trans (rm_24c (by decide)), (rm_24c (by decide)).trans (rm_24c (by decide))⟩
    have b21' : am_gt (am_st (am_st M2 224 (8 * sz + 4) cl2) 224 (8 * sz + 5) cl2) 214 21 = sz + 1 := ((rm_24c (by decide)).trans (rm_24c (by decide))).trans b21
    refine h_199_135 st2.1 ?_
    rw [w4, w5, st2.2.2.2.2.2.1]
    have bB3 : kd ≠ 3 → rm_B (am_st (am_st M2 224 (8 * sz + 4) cl2) 224 (8 * sz + 5) cl2) 0 cl cl2 f := fun q => rm_B_c (bB q) (fun k _ _ => kc3 k)
    have e0 := (k24 (8 * sz) (by omega)).trans b0
    have e3 := (k24 (8 * sz + 3) (by omega)).trans b3
    generalize am_st (am_st M2 224 (8 * sz + 4) cl2) 224 (8 * sz + 5) cl2 = M3 at *
    refine ⟨by omega, by omega, by omega, by omega, fun h => absurd st2.2.2.2.2.2.2.1 h, fun _ => ⟨by omega, rm_177 29 (by decide +kernel) st3.1 st3.2.2.1 s24 ?_⟩⟩
    by_cases e29 : tk_x T s2 = rd_tx 29
    · rw [if_pos e29]
      have adv := tk_advx 29 (by decide) s24 e29
      refine h_199_173 st3.1 ⟨fun h => absurd h (by decide), fun _ => ⟨by omega, rm_176 (by omega) st3.1 hT st3.2.1 st3.2.2.1.2.1 (by omega) he2.2 (fun M4 F4 hk4 => ?_)⟩⟩
      have st4 := rm_st_n st3 F4 hk4 (by omega) he2.2
      have mv4 : rm_mv M3 M4 cl2 := rm_mv_n st3.1 F4
      have Z4 := rm_Z_m st3.1 Z3 mv4 hc2
      refine h_199_180 st4.1 ⟨by omega, rm_196 (g := rd_test T 0 8) (by omega) hT (.inl rfl) (.inr ⟨rfl, rfl⟩) st4 (by omega) (fun p M5 hp F5 L5 b19 b18 => ?_) (fun f5 s5 n5' M5 cl5 hok mv5 st5 hs5 B5 => ?_)⟩
      · exact bad185 p M5 kd x3 (by rw [heq4]; unfold rd_c4 rd_tst; rw [if_pos e29, hp]) hsz (nm_Fr_trans (nm_Fr_sub Z4.1 (by decide)) (nm_Fr_sub F5 (by decide))) L5 b19 b18
      · have lt5 := rm_B_lt B5
        have k5 : ∀ k, am_gt M5 224 k = am_gt M3 224 k := fun k => ((rm_xg_24 st4.1 mv5.1).1 k).trans ((rm_xg_24 st3.1 mv4.1).1 k)
        have kc5 : ∀ k, 0 ≤ k → k < cl2 → am_gt M5 225 k = am_gt M3 225 k ∧ am_gt M5 226 k = am_gt M3 226 k := fun k a b => ⟨(mv5.2 k a b).1.trans (mv4.2 k a b).1, (mv5.2 k a b).2.trans (mv4.2 k a b).2⟩
        refine fin M5 kd f (some f5) s5 n5' cl5 x3 (by rw [heq4]; unfold rd_c4 rd_tst; rw [if_pos e29, hok]) (rm_Z_m st4.1 Z4 mv5 hc2) st5 (by omega) hs5 hsz ((((rm_xg_24 st4.1 mv5.1).2).trans ((rm_xg_24 st3.1 mv4.1).2)).trans b21') ((k5 _).trans e0) (fun q => ?_) (.inr ⟨f5, rfl, ?_⟩)
        · rw [k5, k5, e3, v4]; exact rm_blk_m (M := M3) ⟨bB3 q, c0, Int.le_refl _⟩ kc5 (by omega)
        · rw [k5, v5]; exact ⟨B5, by omega, Int.le_refl _⟩
    · rw [if_neg e29]
      refine h_199_173 st3.1 ⟨fun _ => fin M3 kd f none s2 n2 cl2 x3 (by rw [heq4]; unfold rd_c4 rd_tst; rw [if_neg e29]) Z3 st3 hc2 hs2 hsz b21' e0 (fun q => ?_) (.inl ⟨rfl, v5⟩), fun h => absurd rfl h⟩
      rw [e3, v4]; exact ⟨bB3 q, c0, Int.le_refl _⟩
  -- the head
  have done : ∀ v, v = rd_lk (tk_x T s) → am_WP d am_c199 4 [(2, 214), (0, v), (0, 4), (9, 0)] [] M Q := by
    intro v hv'
    have no : rd_lk (tk_x T s) = -1 ∨ 12 ≤ sz → am_CL (d - 1) 179 [(2, 214), (0, 0)] M (fun r M' => am_WP d am_c199 57 [(2, 214), (0, v), (0, 4), (9, 0)] (r ++ []) M' Q) := by
      intro hc
      have F : nm_Fr rm_lg M (am_st (am_st M 214 19 1) 214 18 (tk_b T s)) := nm_Fr_st (nm_Fr_st (nm_Fg_refl _ _) (by decide)) (by decide)
      have L2 := nm_Lay_fr hL F (by decide +kernel)
      have b19 : am_gt (am_st (am_st M 214 19 1) 214 18 (tk_b T s)) 214 19 = 1 := by rw [nm_gt_st, if_neg (fun q => absurd q.2 (by decide)), nm_gt_st, if_pos ⟨rfl, rfl⟩]
      refine rm_179n hL hS g19 (h_199_57 L2 ⟨fun h => absurd h (by rw [b19]; decide), fun _ => ?_⟩)
      exact hE _ _ (by unfold rd_cls; rw [kd0, if_pos hc]) F L2 b19 (by rw [nm_gt_st, if_pos ⟨rfl, rfl⟩])
    refine h_199_4 hL ⟨fun _ => ⟨fun h => ⟨by omega, no (.inl (by omega))⟩, fun h => ?_⟩, fun h => absurd (by decide) h⟩
    rw [gsz]
    refine ⟨fun h2 => ⟨by omega, no (.inr h2)⟩, fun h2 => ⟨by omega, ?_⟩⟩
    obtain ⟨kx, k0, k3⟩ : tk_x T s ≠ [] ∧ 0 ≤ v ∧ v ≤ 3 := by
      rcases rd_kd_n 0 (tk_x T s) with e | e
      · rw [kd0] at e; omega
      · rw [kd0] at e; exact ⟨e.1, by omega, by omega⟩
    have adv := tk_adv s1 kx
    have eq0 : rd_cls T 0 s n sz = (match rd_fst T 0 v (tk_e T s) n with
      | .error p => .error p
      | .ok (f, s1, n1) => rd_c2 T 0 v f s1 n1) := by unfold rd_cls; rw [kd0, ← hv', if_neg (by omega)]; rfl
    refine rm_179y (by decide) (by omega) hL hT hTP hS s0 s1 g19 (fun M1 F1 hk => ?_)
    have st1 := rm_st_n hst F1 hk (by omega) he.2
    have mv1 : rm_mv M M1 cl := rm_mv_n hL F1
    have Z1 : rm_Z M M1 cl sz := ⟨nm_Fr_sub mv1.1 (by decide), mv1.2, fun k _ => (rm_xg_24 hL mv1.1).1 k⟩
    have b21 : am_gt M1 214 21 = sz := ((rm_xg_24 hL mv1.1).2).trans gsz
    refine h_199_57 st1.1 ⟨fun _ => ?_, fun h => absurd st1.2.2.2.2.2.2.1 h⟩
    have w8 : am_w (8 * sz) = 8 * sz := am_w_id (by omega) (by omega)
    rw [b21, w8]
    -- zeros
    have zeros : ∀ (m j : Nat) (M2 : am_M), 8 - j ≤ m → j ≤ 8 → rm_Z M M2 cl sz → rm_st M2 T 0 (tk_e T s) n cl → am_gt M2 214 21 = sz → am_WP d am_c199 75 [(2, 214), (0, v), (0, 8 * sz), (0, (j : Int))] [] M2 Q := by
      have end8 : ∀ (M2 : am_M), rm_Z M M2 cl sz → rm_st M2 T 0 (tk_e T s) n cl → am_gt M2 214 21 = sz → am_WP d am_c199 75 [(2, 214), (0, v), (0, 8 * sz), (0, 8)] [] M2 Q := by
        intro M2 Z2 st2 c21
        refine h_199_75 st2.1 ⟨fun _ => ⟨by omega, by omega, ?_⟩, fun h => absurd (by decide) h⟩
        have st3 := rm_st24 (i := 8 * sz) (v := v) st2 (by omega) (by omega)
        have Z3 := rm_Z24 (i := 8 * sz) (v := v) Z2 z0 (by omega) (by omega)
        have c21' : am_gt (am_st M2 224 (8 * sz) v) 214 21 = sz := (rm_24c (by decide)).trans c21
        have v0 : am_gt (am_st M2 224 (8 * sz) v) 224 (8 * sz) = v := by rw [nm_gt_st, if_pos ⟨rfl, rfl⟩]
        generalize am_st M2 224 (8 * sz) v = M3 at *
        have w3 : am_w (8 * sz + 3) = 8 * sz + 3 := am_w_id (by omega) (by omega)
        refine h_199_103 st3.1 ?_
        rw [w3, c21', st3.2.2.2.2.2.1, am_w_id (x := sz + 1) (by omega) (by omega)]
        have F4 : nm_Fr [(214, 21, 22)] M3 (am_st M3 214 21 (sz + 1)) := nm_Fr_st (nm_Fg_refl _ _) (by decide)
        have st4 := rm_st24 (i := 8 * sz + 3) (v := cl) (rm_st_f st3 F4 (by decide +kernel) (by decide) (by decide)) (by omega) (by omega)
        have Z4' : rm_Z M (am_st M3 214 21 (sz + 1)) cl sz := ⟨nm_Fr_trans Z3.1 (nm_Fr_sub F4 (by decide)), fun k a b => ⟨(nm_st_ne (by decide)).trans (Z3.2.1 k a b).1, (nm_st_ne (by decide)).trans (Z3.2.1 k a b).2⟩, fun k a => (nm_st_ne (by decide)).trans (Z3.2.2 k a)⟩
        have Z4 := rm_Z24 (i := 8 * sz + 3) (v := cl) Z4' z0 (by omega) (by omega)
        have d21 : am_gt (am_st (am_st M3 214 21 (sz + 1)) 224 (8 * sz + 3) cl) 214 21 = sz + 1 := (rm_24c (by decide)).trans nm_st_eq
        have d0 : am_gt (am_st (am_st M3 214 21 (sz + 1)) 224 (8 * sz + 3) cl) 224 (8 * sz) = v := (rm_24k (by omega)).trans ((nm_st_ne (by decide)).trans v0)
        have d3 : am_gt (am_st (am_st M3 214 21 (sz + 1)) 224 (8 * sz + 3) cl) 224 (8 * sz + 3) = cl := by rw [nm_gt_st, if_pos ⟨rfl, rfl⟩]
        generalize am_st (am_st M3 214 21 (sz + 1)) 224 (8 * sz + 3) cl = M4 at *
        refine ⟨by omega, by omega, fun h3 => ?_, fun h3 => ⟨by omega, ?_⟩⟩
        · exact at135 M4 v rd_0 (tk_e T s) n cl _ (by rw [eq0]; unfold rd_fst; rw [if_pos h3]) Z4 st4 (Int.le_refl _) (by omega) (by omega) d21 d0 d3 (fun q => absurd h3 q)
        · refine rm_196 (g := rd_sum T 0 8) (by omega) hT (.inl rfl) (.inl ⟨rfl, rfl⟩) st4 (by omega) (fun p M5 hp F5 L5 b19 b18 => ?_) (fun f5 s5 n5' M5 cl5 hok mv5 st5 hs5 B5 => ?_)
          · have w4 : am_w (8 * sz + 4) = 8 * sz + 4 := am_w_id (by omega) (by omega)
            have w5 : am_w (8 * sz + 5) = 8 * sz + 5 := am_w_id (by omega) (by omega)
            refine h_199_135 L5 ?_
            rw [w4, w5]
            have F6 : nm_Fr rm_lg M (am_st (am_st M5 224 (8 * sz + 4) (am_gt M5 214 23)) 224 (8 * sz + 5) (am_gt M5 214 23)) := nm_Fst (nm_Fst (nm_Fr_trans (nm_Fr_sub Z4.1 (by decide)) (nm_Fr_sub F5 (by decide))) (lo := 0) (hi := 96) (by simp only [List.mem_cons, true_or, or_true]) (by omega) (by omega)) (lo := 0) (hi := 96) (by simp only [List.mem_cons, true_or, or_true]) (by omega) (by omega)
            refine ⟨by omega, by omega, by omega, by omega, fun _ => ?_, fun h => absurd (by rw [b19]; decide) h⟩
            exact bad185 p _ v _ (by rw [eq0]; unfold rd_fst; rw [if_neg h3, hp]) (by omega) F6 (nm_Lay_fr hL F6 (by decide +kernel)) (((rm_24c (by decide)).trans (rm_24c (by decide))).trans b19) (((rm_24c (by decide)).trans (rm_24c (by decide))).trans b18)
          · have lt5 := rm_B_lt B5
            exact at135 M5 v f5 s5 n5' cl5 _ (by rw [eq0]; unfold rd_fst; rw [if_neg h3, hok]) (rm_Z_m st4.1 Z4 mv5 (Int.le_refl _)) st5 (by omega) hs5 (by omega) (((rm_xg_24 st4.1 mv5.1).2).trans d21) (((rm_xg_24 st4.1 mv5.1).1 _).trans d0) (((rm_xg_24 st4.1 mv5.1).1 _).trans d3) (fun _ => B5)
      intro m
      induction m with
      | zero =>
        intro j M2 hm hj Z2 st2 c21
        have : j = 8 := by omega
        subst this; exact end8 M2 Z2 st2 c21
      | succ m ih =>
        intro j M2 hm hj Z2 st2 c21
        by_cases hj8 : j = 8
        · subst hj8; exact end8 M2 Z2 st2 c21
        · refine h_199_75 st2.1 ⟨fun h => absurd h (by omega), fun _ => ?_⟩
          rw [am_w_id (x := 8 * sz + (j : Int)) (by omega) (by omega), am_w_id (x := (j : Int) + 1) (by omega) (by omega)]
          refine ⟨by omega, by omega, ?_⟩
          have := ih (j + 1) _ (by omega) (by omega) (rm_Z24 (i := 8 * sz + (j : Int)) (v := 0) Z2 z0 (by omega) (by omega)) (rm_st24 (i := 8 * sz + (j : Int)) (v := 0) st2 (by omega) (by omega)) ((rm_24c (by decide)).trans c21)
          rw [show ((j + 1 : Nat) : Int) = (j : Int) + 1 by omega] at this
          exact this
    exact zeros 8 0 M1 (by decide) (by decide) Z1 st1 b21
  exact rm_199h (by omega) hL hS s1 (done _ rfl)
