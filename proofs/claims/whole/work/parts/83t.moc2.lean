/-! ORDERS' CLAUSES, THE REFERENCE: sums, the head -/
theorem rm_249 {d : Nat} {T : tk_T} {cl sz a s2 n2 cl2 : Int} {M M2 : am_M} {Q : List am_V → am_M → Prop} (hd : 9 ≤ d) (hT : tk_ok T) (hL : nm_Lay M) (z0 : 0 ≤ sz) (ha : 8 * sz ≤ a) (ha2 : a + 1 < 96) (Y2 : rm_Y M M2 cl sz) (st2 : rm_st M2 T 1 s2 n2 cl2) (hc : cl ≤ cl2) (hs : cl2 ≤ s2)
    (hE : ∀ p M', rd_sum T 1 8 s2 n2 = .error p → nm_Fr rm_og M M' → am_gt M' 214 19 = 1 → am_gt M' 214 18 = p → Q [] M')
    (hK : ∀ f s3 n3 M' cl3, rd_sum T 1 8 s2 n2 = .ok (f, s3, n3) → rm_Y M M' cl sz → rm_st M' T 1 s3 n3 cl3 → cl2 ≤ cl3 → cl3 ≤ s3 → (∀ k, k ≠ a → k ≠ a + 1 → am_gt M' 245 k = am_gt M2 245 k) → am_gt M' 245 a = cl2 → am_gt M' 245 (a + 1) = cl3 → (∀ k, 0 ≤ k → k < cl2 → am_gt M' 225 k = am_gt M2 225 k ∧ am_gt M' 226 k = am_gt M2 226 k) → rm_B M' 1 cl2 cl3 f → Q [] M') : am_CL d 249 [(2, 214), (0, a)] M2 Q := by
  have w1 : am_w (a + 1) = a + 1 := am_w_id (by omega) (by omega)
  have stA := rm_st45 (i := a) (v := cl2) st2 (by omega) (by omega)
  have YA := rm_Y45 (i := a) (v := cl2) Y2 z0 ha (by omega)
  refine h_249_0 st2.1 ?_
  rw [st2.2.2.2.2.2.1]
  refine ⟨by omega, by omega, fun h => absurd st2.2.2.2.2.2.2.1 h, fun _ => ⟨by omega, rm_196 (g := rd_sum T 1 8) (by omega) hT (.inr rfl) (.inl ⟨rfl, rfl⟩) stA hs (fun p M5 hp F5 L5 b19 b18 => ?_) (fun f5 s5 n5' M5 cl5 hok mv5 st5 hs5 B5 => ?_)⟩⟩
  · refine h_249_22 L5 ?_
    rw [w1]
    have F6 : nm_Fr rm_og M (am_st M5 245 (a + 1) (am_gt M5 214 23)) := nm_Fst (nm_Fr_trans (nm_Fr_sub YA.1 (by decide)) (nm_Fr_sub F5 (by decide))) (lo := 0) (hi := 96) (by simp only [List.mem_cons, true_or, or_true]) (by omega) (by omega)
    exact ⟨by omega, by omega, hE p _ hp F6 ((rm_45c (by decide)).trans b19) ((rm_45c (by decide)).trans b18)⟩
  · have lt5 := rm_B_lt B5
    refine h_249_22 st5.1 ?_
    rw [w1, st5.2.2.2.2.2.1]
    have k5 : ∀ k, am_gt M5 245 k = am_gt (am_st M2 245 a cl2) 245 k := fun k => (rm_xg_45 stA.1 mv5.1).1 k
    refine ⟨by omega, by omega, hK f5 s5 n5' _ cl5 hok (rm_Y45 (rm_Y_m stA.1 YA mv5 hc) z0 (by omega) (by omega)) (rm_st45 st5 (by omega) (by omega)) (by omega) hs5 (fun k h1 h2 => (rm_45k h2).trans ((k5 k).trans (rm_45k h1))) ((rm_45k (by omega)).trans ((k5 a).trans rm_45e)) rm_45e (fun k x y => ⟨(rm_45c (by decide)).trans ((mv5.2 k x y).1.trans (rm_45c (by decide))), (rm_45c (by decide)).trans ((mv5.2 k x y).2.trans (rm_45c (by decide)))⟩) (rm_B_c B5 (fun k _ _ => ⟨rm_45c (by decide), rm_45c (by decide)⟩))⟩
theorem rm_osnd {d : Nat} {T : tk_T} {cl sz kd : Int} {M M2 : am_M} {Q : List am_V → am_M → Prop} {f : rd_F} {s2 n2 cl2 x3 : Int} (hd : 12 ≤ d) (hT : tk_ok T) (hL : nm_Lay M) (z0 : 0 ≤ sz) (z1 : sz < 12) (Y2 : rm_Y M M2 cl sz) (st2 : rm_st M2 T 1 s2 n2 cl2) (hc : cl ≤ cl2) (hs : cl2 ≤ s2) (b0 : am_gt M2 245 (8 * sz) = kd) (b1 : (kd = 3 ∧ am_gt M2 245 (8 * sz + 1) = am_gt M2 245 (8 * sz + 2)) ∨ (kd ≠ 3 ∧ rm_blk M2 1 (am_gt M2 245 (8 * sz + 1)) (am_gt M2 245 (8 * sz + 2)) cl2 f)) (b2 : am_gt M2 245 (8 * sz + 3) = am_gt M2 245 (8 * sz + 4))
    (hE : ∀ p M', rd_c2 T 1 kd f s2 n2 = .error p → nm_Fr rm_og M M' → nm_Lay M' → am_gt M' 214 19 = 1 → am_gt M' 214 18 = p → Q [] M')
    (hK : ∀ c s4 n4 M' cl', rd_c2 T 1 kd f s2 n2 = .ok (c, s4, n4) → rm_Y M M' cl sz → rm_st M' T 1 s4 n4 cl' → cl ≤ cl' → cl' ≤ s4 → rm_oc M' cl' sz c → Q [] M') : am_WP d am_c250 125 [(2, 214), (0, kd), (0, 8 * sz), (0, x3)] [] M2 Q := by
  have t4 := hT.2.1
  have st2' := st2
  obtain ⟨L2, T2, S2, g20, g26, g23, g19, s20, s24, n0, n5, c0⟩ := st2'
  have he := tk_se s24
  refine h_250_125 L2 ⟨fun h => ?_, fun h => ⟨fun h2 => absurd g19 h2, fun _ => ⟨by omega, rm_177 27 (by decide +kernel) L2 S2 s24 (h_250_145 L2 ⟨by omega, ?_⟩)⟩⟩⟩
  · have e : rd_c2 T 1 kd f s2 n2 = rd_c3 T 1 kd f rd_0 s2 n2 := by unfold rd_c2 rd_snd; rw [if_neg (fun q => h q.2)]
    rw [e] at hE hK
    exact rm_otim (by omega) hT hL z0 z1 Y2 st2 hc hs ⟨b0, b1, .inl ⟨h, b2⟩⟩ hE hK
  · have hk2 : kd = 2 := by omega
    have hcc : (1 : Int) ≠ 0 ∧ kd = 2 := ⟨by decide, hk2⟩
    by_cases e27 : tk_x T s2 = rd_tx 27
    · rw [if_pos e27]
      have adv := tk_advx 27 (by decide) s24 e27
      refine rm_179y (by decide) (by omega) L2 hT T2 S2 s20 s24 g19 (fun M3 F3 hk3 => ?_)
      have st3 := rm_st_n st2 F3 hk3 (by omega) he.2
      have mv3 : rm_mv M2 M3 cl2 := rm_mv_n L2 F3
      have Y3 := rm_Y_m L2 Y2 mv3 hc
      have k3 : ∀ k, am_gt M3 245 k = am_gt M2 245 k := fun k => (rm_xg_45 L2 mv3.1).1 k
      refine h_250_148 st3.1 ⟨by omega, ?_⟩
      rw [am_w_id (x := 8 * sz + 3) (by omega) (by omega)]
      refine rm_249 (by omega) hT hL z0 (by omega) (by omega) Y3 st3 hc (by omega) (fun p M5 hp F5 b19 b18 => ?_) (fun f5 s5 n5' M5 cl5 hok Y5 st5 hc5 hs5 kk v3 v4 kc B5 => ?_)
      · exact rm_o155 hL z0 z1 F5 b19 b18 (fun M' a b c e => hE p M' (by unfold rd_c2 rd_snd; rw [if_pos hcc, if_pos e27, hp]) a b c e)
      · have e : rd_c2 T 1 kd f s2 n2 = rd_c3 T 1 kd f f5 s5 n5' := by unfold rd_c2 rd_snd; rw [if_pos hcc, if_pos e27, hok]
        rw [e] at hE hK
        have q : ∀ k, k < 8 * sz + 3 → am_gt M5 245 k = am_gt M2 245 k := fun k hk => (kk k (by omega) (by omega)).trans (k3 k)
        refine rm_otim (by omega) hT hL z0 z1 Y5 st5 (by omega) hs5 ⟨(q _ (by omega)).trans b0, ?_, .inr ⟨hk2, ?_⟩⟩ hE hK
        · rw [q _ (by omega), q _ (by omega)]
          rcases b1 with b | ⟨b, b'⟩
          · exact .inl b
          · exact .inr ⟨b, rm_blk_m b' (fun k x y => ⟨(kc k x y).1.trans (mv3.2 k x y).1, (kc k x y).2.trans (mv3.2 k x y).2⟩) hc5⟩
        · rw [v3, show 8 * sz + 4 = 8 * sz + 3 + 1 by omega, v4]
          exact ⟨B5, c0, Int.le_refl _⟩
    · rw [if_neg e27]
      have Fb : nm_Fr rm_og M (am_st (am_st M2 214 19 1) 214 18 (tk_b T s2)) := nm_Fr_st (nm_Fr_st (nm_Fr_sub Y2.1 (by decide)) (by decide)) (by decide)
      exact rm_179n L2 S2 g19 (rm_o148 (by omega) hL z0 z1 Fb (by rw [nm_st_nj (by decide), nm_st_eq]) nm_st_eq (fun M' a b c e => hE _ M' (by unfold rd_c2 rd_snd; rw [if_pos hcc, if_neg e27]) a b c e))
theorem rm_250h {d : Nat} {T : tk_T} {s : Int} {M : am_M} {Q : List am_V → am_M → Prop} (hd : 1 ≤ d) (hL : nm_Lay M) (hS : rm_tk M T s) (h1 : s ≤ T.2) (hQ : am_WP d am_c250 4 [(2, 214), (0, rd_okk (tk_x T s)), (0, 4), (9, 0)] [] M Q) : am_CL d 250 [(2, 214)] M Q := by
  have loop : ∀ (n j : Nat) (v : Int), 4 - j ≤ n → j ≤ 4 → v = rd_h0 rd_ks3 (tk_x T s) j → am_WP d am_c250 4 [(2, 214), (0, v), (0, (j : Int)), (9, 0)] [] M Q := by
    have done : ∀ v, v = rd_h0 rd_ks3 (tk_x T s) 4 → am_WP d am_c250 4 [(2, 214), (0, v), (0, 4), (9, 0)] [] M Q := fun v hv => by
      rw [hv, rd_h0_ok]; exact hQ
    intro n
    induction n with
    | zero =>
      intro j v hn hj hv
      obtain rfl : j = 4 := by omega
      exact done v hv
    | succ n ih =>
      intro j v hn hj hv
      by_cases hj4 : j = 4
      · subst hj4; exact done v hv
      · have w1 : am_w ((j : Int) + 1) = ((j + 1 : Nat) : Int) := by rw [am_w_id (by omega) (by omega)]; omega
        have nx := ih (j + 1)
        refine h_250_4 hL ⟨fun h => absurd h (by omega), fun _ => ⟨by omega, by omega, hd, rm_177 (rd_ks3.getD j 0) (rm_tb244 hL j (by omega)) hL hS h1 (h_250_19 hL ?_)⟩⟩
        rw [w1]
        by_cases e : tk_x T s = rd_tx (rd_ks3.getD j 0)
        · rw [if_pos e]
          exact ⟨fun h => absurd h (by decide), fun _ => nx (j : Int) (by omega) (by omega) (if_pos e).symm⟩
        · rw [if_neg e]
          exact ⟨fun _ => nx v (by omega) (by omega) (hv.trans (if_neg e).symm), fun h => absurd rfl h⟩
  exact h_250_0 hL (loop 4 0 (-1) (by decide) (by decide) rfl)
theorem rm_250 {d : Nat} {T : tk_T} {s n cl sz : Int} {M : am_M} {Q : List am_V → am_M → Prop} (hd : 14 ≤ d) (hT : tk_ok T) (z0 : 0 ≤ sz) (z1 : sz ≤ 12) (hst : rm_st M T 1 s n cl) (gsz : am_gt M 214 21 = sz) (hcl : cl ≤ s)
    (hE : ∀ p M', rd_cls T 1 s n sz = .error p → nm_Fr rm_og M M' → nm_Lay M' → am_gt M' 214 19 = 1 → am_gt M' 214 18 = p → Q [] M')
    (hK : ∀ c s4 n4 M' cl', rd_cls T 1 s n sz = .ok (c, s4, n4) → rm_Y M M' cl sz → rm_st M' T 1 s4 n4 cl' → cl ≤ cl' → cl' ≤ s4 → rm_oc M' cl' sz c → Q [] M') : am_CL d 250 [(2, 214)] M Q := by
  have t4 := hT.2.1
  have hst' := hst
  obtain ⟨hL, hTP, hS, g20, g26, g23, g19, s0, s1, n0, n5, c0⟩ := hst'
  have he := tk_se s1
  have kd0 : ∀ x, rd_kd 1 x = rd_okk x := fun x => by unfold rd_kd; rw [if_neg (by decide)]
  refine rm_250h (by omega) hL hS s1 ?_
  generalize hv' : rd_okk (tk_x T s) = v
  have no : v = -1 ∨ 12 ≤ sz → am_CL (d - 1) 179 [(2, 214), (0, 0)] M (fun r M' => am_WP d am_c250 57 [(2, 214), (0, v), (0, 4), (9, 0)] (r ++ []) M' Q) := by
    intro hc
    have F : nm_Fr rm_og M (am_st (am_st M 214 19 1) 214 18 (tk_b T s)) := nm_Fr_st (nm_Fr_st (nm_Fg_refl _ _) (by decide)) (by decide)
    have L2 := nm_Lay_fr hL F (by decide +kernel)
    have b19 : am_gt (am_st (am_st M 214 19 1) 214 18 (tk_b T s)) 214 19 = 1 := by rw [nm_st_nj (by decide), nm_st_eq]
    refine rm_179n hL hS g19 (h_250_57 L2 ⟨fun h => absurd h (by rw [b19]; decide), fun _ => ?_⟩)
    exact hE _ _ (by unfold rd_cls; rw [kd0, hv', if_pos hc]) F L2 b19 nm_st_eq
  refine h_250_4 hL ⟨fun _ => ⟨fun h => ⟨by omega, no (.inl (by omega))⟩, fun h => ?_⟩, fun h => absurd (by decide) h⟩
  rw [gsz]
  refine ⟨fun h2 => ⟨by omega, no (.inr h2)⟩, fun h2 => ⟨by omega, ?_⟩⟩
  obtain ⟨kx, k0, k3⟩ : tk_x T s ≠ [] ∧ 0 ≤ v ∧ v ≤ 3 := by
    rcases rd_kd_n 1 (tk_x T s) with e | e
    · rw [kd0] at e; omega
    · rw [kd0] at e; exact ⟨e.1, by omega, by omega⟩
  have adv := tk_adv s1 kx
  have eq0 : rd_cls T 1 s n sz = (match rd_fst T 1 v (tk_e T s) n with
    | .error p => .error p
    | .ok (f, s1, n1) => rd_c2 T 1 v f s1 n1) := by unfold rd_cls; rw [kd0, hv', if_neg (by omega)]; rfl
  refine rm_179y (by decide) (by omega) hL hT hTP hS s0 s1 g19 (fun M1 F1 hk => ?_)
  have st1 := rm_st_n hst F1 hk (by omega) he.2
  have mv1 : rm_mv M M1 cl := rm_mv_n hL F1
  have b21 : am_gt M1 214 21 = sz := ((rm_xg_45 hL mv1.1).2).trans gsz
  refine h_250_57 st1.1 ⟨fun _ => ?_, fun h => absurd st1.2.2.2.2.2.2.1 h⟩
  have w8 : am_w (8 * sz) = 8 * sz := am_w_id (by omega) (by omega)
  rw [b21, w8, am_w_id (x := sz + 1) (by omega) (by omega)]
  have F2 : nm_Fr [(214, 21, 22)] M1 (am_st M1 214 21 (sz + 1)) := nm_Fr_st (nm_Fg_refl _ _) (by decide)
  have st2 := rm_st_f st1 F2 (by decide +kernel) (by decide) (by decide)
  have Y2 : rm_Y M (am_st M1 214 21 (sz + 1)) cl sz := ⟨nm_Fr_trans (nm_Fr_sub mv1.1 (by decide)) (nm_Fr_sub F2 (by decide)), fun k a b => ⟨(nm_st_ne (by decide)).trans (mv1.2 k a b).1, (nm_st_ne (by decide)).trans (mv1.2 k a b).2⟩, fun k a => (nm_st_ne (by decide)).trans ((rm_xg_45 hL mv1.1).1 k), nm_st_eq⟩
  generalize am_st M1 214 21 (sz + 1) = M2 at st2 Y2 ⊢
  -- zeros
  have zeros : ∀ (m j : Nat) (M3 : am_M), 8 - j ≤ m → j ≤ 8 → rm_Y M M3 cl sz → rm_st M3 T 1 (tk_e T s) n cl → (∀ k, 8 * sz ≤ k → k < 8 * sz + (j : Int) → am_gt M3 245 k = 0) → am_WP d am_c250 85 [(2, 214), (0, v), (0, 8 * sz), (0, (j : Int))] [] M3 Q := by
    have end8 : ∀ (M3 : am_M), rm_Y M M3 cl sz → rm_st M3 T 1 (tk_e T s) n cl → (∀ k, 8 * sz ≤ k → k < 8 * sz + 8 → am_gt M3 245 k = 0) → am_WP d am_c250 85 [(2, 214), (0, v), (0, 8 * sz), (0, 8)] [] M3 Q := by
      intro M3 Y3 st3 hz
      have st4 := rm_st45 (i := 8 * sz) (v := v) st3 (by omega) (by omega)
      have Y4 := rm_Y45 (i := 8 * sz) (v := v) Y3 z0 (by omega) (by omega)
      have v0 : am_gt (am_st M3 245 (8 * sz) v) 245 (8 * sz) = v := rm_45e
      have vz : ∀ k, 8 * sz < k → k < 8 * sz + 8 → am_gt (am_st M3 245 (8 * sz) v) 245 k = 0 := fun k a b => (rm_45k (by omega)).trans (hz k (by omega) b)
      refine h_250_85 st3.1 ⟨fun _ => ⟨by omega, by omega, ?_⟩, fun h => absurd (by decide) h⟩
      generalize am_st M3 245 (8 * sz) v = M4 at st4 Y4 v0 vz ⊢
      refine ⟨fun h3 => ?_, fun h3 => ⟨by omega, ?_⟩⟩
      · have e : rd_cls T 1 s n sz = rd_c2 T 1 v rd_0 (tk_e T s) n := by rw [eq0]; unfold rd_fst; rw [if_pos h3]
        rw [e] at hE hK
        exact rm_osnd (by omega) hT hL z0 (by omega) Y4 st4 (Int.le_refl _) (by omega) v0 (.inl ⟨h3, by rw [vz _ (by omega) (by omega), vz _ (by omega) (by omega)]⟩) (by rw [vz _ (by omega) (by omega), vz _ (by omega) (by omega)]) hE hK
      · rw [am_w_id (x := 8 * sz + 1) (by omega) (by omega)]
        refine rm_249 (by omega) hT hL z0 (by omega) (by omega) Y4 st4 (Int.le_refl _) (by omega) (fun p M5 hp F5 b19 b18 => ?_) (fun f5 s5 n5' M5 cl5 hok Y5 st5 hc5 hs5 kk v3 v4 kc B5 => ?_)
        · exact rm_o125 (by omega) hL z0 (by omega) F5 b19 b18 (fun M' a b c e => hE p M' (by rw [eq0]; unfold rd_fst; rw [if_neg h3, hp]) a b c e)
        · have e : rd_cls T 1 s n sz = rd_c2 T 1 v f5 s5 n5' := by rw [eq0]; unfold rd_fst; rw [if_neg h3, hok]
          rw [e] at hE hK
          refine rm_osnd (by omega) hT hL z0 (by omega) Y5 st5 hc5 hs5 ((kk _ (by omega) (by omega)).trans v0) (.inr ⟨h3, ?_⟩) (by rw [kk _ (by omega) (by omega), kk _ (by omega) (by omega), vz _ (by omega) (by omega), vz _ (by omega) (by omega)]) hE hK
          rw [v3, show 8 * sz + 2 = 8 * sz + 1 + 1 by omega, v4]
          exact ⟨B5, c0, Int.le_refl _⟩
    intro m
    induction m with
    | zero =>
      intro j M3 hm hj Y3 st3 hz
      obtain rfl : j = 8 := by omega
      exact end8 M3 Y3 st3 hz
    | succ m ih =>
      intro j M3 hm hj Y3 st3 hz
      by_cases hj8 : j = 8
      · subst hj8; exact end8 M3 Y3 st3 hz
      · refine h_250_85 st3.1 ⟨fun h => absurd h (by omega), fun _ => ?_⟩
        rw [am_w_id (x := 8 * sz + (j : Int)) (by omega) (by omega), am_w_id (x := (j : Int) + 1) (by omega) (by omega)]
        refine ⟨by omega, by omega, ?_⟩
        have := ih (j + 1) _ (by omega) (by omega) (rm_Y45 (i := 8 * sz + (j : Int)) (v := 0) Y3 z0 (by omega) (by omega)) (rm_st45 (i := 8 * sz + (j : Int)) (v := 0) st3 (by omega) (by omega)) (fun k a b => ?_)
        · rw [show ((j + 1 : Nat) : Int) = (j : Int) + 1 by omega] at this; exact this
        · by_cases hk : k = 8 * sz + (j : Int)
          · rw [hk, rm_45e]
          · rw [rm_45k hk]; exact hz k a (by omega)
  exact zeros 8 0 M2 (by decide) (by decide) Y2 st2 (fun k a b => by omega)
