/-! ORDERS' CLAUSES, THE REFERENCE -/
def rm_oc (M : am_M) (cl k : Int) (c : rd_C) : Prop := am_gt M 245 (8 * k) = c.1 ∧ ((c.1 = 3 ∧ am_gt M 245 (8 * k + 1) = am_gt M 245 (8 * k + 2)) ∨ (c.1 ≠ 3 ∧ rm_blk M 1 (am_gt M 245 (8 * k + 1)) (am_gt M 245 (8 * k + 2)) cl c.2.1)) ∧ ((c.1 ≠ 2 ∧ am_gt M 245 (8 * k + 3) = am_gt M 245 (8 * k + 4)) ∨ (c.1 = 2 ∧ rm_blk M 1 (am_gt M 245 (8 * k + 3)) (am_gt M 245 (8 * k + 4)) cl c.2.2.1)) ∧ ((c.2.2.2.2 = none ∧ am_gt M 245 (8 * k + 6) ≤ am_gt M 245 (8 * k + 5)) ∨ ∃ g, c.2.2.2.2 = some g ∧ am_gt M 245 (8 * k + 5) < am_gt M 245 (8 * k + 6) ∧ rm_blk M 1 (am_gt M 245 (8 * k + 5)) (am_gt M 245 (8 * k + 6)) cl g) ∧ am_gt M 245 (8 * k + 7) = c.2.2.2.1
theorem rm_oc_m {M M' : am_M} {cl cl' k : Int} {c : rd_C} (h : rm_oc M cl k c) (hc : ∀ k, 0 ≤ k → k < cl → am_gt M' 225 k = am_gt M 225 k ∧ am_gt M' 226 k = am_gt M 226 k) (h3 : ∀ i, i < 8 * k + 8 → am_gt M' 245 i = am_gt M 245 i) (hl : cl ≤ cl') : rm_oc M' cl' k c := by
  obtain ⟨a, b, e, g, f⟩ := h
  unfold rm_oc
  rw [h3 _ (by omega), h3 _ (by omega), h3 _ (by omega), h3 _ (by omega), h3 _ (by omega), h3 _ (by omega), h3 _ (by omega), h3 _ (by omega)]
  refine ⟨a, ?_, ?_, ?_, f⟩
  · rcases b with b | ⟨b1, b2⟩
    · exact .inl b
    · exact .inr ⟨b1, rm_blk_m b2 hc hl⟩
  · rcases e with b | ⟨b1, b2⟩
    · exact .inl b
    · exact .inr ⟨b1, rm_blk_m b2 hc hl⟩
  · rcases g with g | ⟨g, g1, g2, g3⟩
    · exact .inl g
    · exact .inr ⟨g, g1, g2, rm_blk_m g3 hc hl⟩
abbrev rm_oh : nm_Rg := [(214, 14, 18), (214, 21, 22), (214, 23, 24), (214, 26, 27), (214, 29, 31), (225, 0, 400), (226, 0, 400), (227, 0, 400), (228, 0, 400), (245, 0, 96)]
abbrev rm_og : nm_Rg := [(214, 14, 20), (214, 21, 22), (214, 23, 24), (214, 26, 27), (214, 29, 31), (225, 0, 400), (226, 0, 400), (227, 0, 400), (228, 0, 400), (245, 0, 96)]
theorem rm_45k {M : am_M} {i v k : Int} (h : k ≠ i) : am_gt (am_st M 245 i v) 245 k = am_gt M 245 k := by rw [nm_gt_st, if_neg (fun q => h q.2)]
theorem rm_45e {M : am_M} {i v : Int} : am_gt (am_st M 245 i v) 245 i = v := by rw [nm_gt_st, if_pos ⟨rfl, rfl⟩]
theorem rm_45c {M : am_M} {i v a k : Int} (h : a ≠ 245) : am_gt (am_st M 245 i v) a k = am_gt M a k := by rw [nm_gt_st, if_neg (fun q => h q.1)]
theorem rm_st45 {M : am_M} {T : tk_T} {o s n cl i v : Int} (h : rm_st M T o s n cl) (h0 : 0 ≤ i) (h6 : i < 96) : rm_st (am_st M 245 i v) T o s n cl := rm_st_f h (nm_Fst (nm_Fg_refl [(245, 0, 96)] M) (List.mem_singleton.mpr rfl) h0 h6) (by decide +kernel) (by decide) (by decide)
def rm_Y (M M1 : am_M) (cl sz : Int) : Prop := nm_Fr rm_oh M M1 ∧ (∀ k, 0 ≤ k → k < cl → am_gt M1 225 k = am_gt M 225 k ∧ am_gt M1 226 k = am_gt M 226 k) ∧ (∀ k, k < 8 * sz → am_gt M1 245 k = am_gt M 245 k) ∧ am_gt M1 214 21 = sz + 1
theorem rm_Y45 {M M1 : am_M} {cl sz i v : Int} (h : rm_Y M M1 cl sz) (h0 : 0 ≤ sz) (h1 : 8 * sz ≤ i) (h6 : i < 96) : rm_Y M (am_st M1 245 i v) cl sz := ⟨nm_Fst h.1 (lo := 0) (hi := 96) (by simp only [List.mem_cons, true_or, or_true]) (by omega) h6, fun k a b => ⟨(rm_45c (by decide)).trans (h.2.1 k a b).1, (rm_45c (by decide)).trans (h.2.1 k a b).2⟩, fun k a => (rm_45k (by omega)).trans (h.2.2.1 k a), (rm_45c (by decide)).trans h.2.2.2⟩
theorem rm_xg_45 {M M1 : am_M} (hL : nm_Lay M) (F : nm_Fr rm_xg M M1) : (∀ k, am_gt M1 245 k = am_gt M 245 k) ∧ am_gt M1 214 21 = am_gt M 214 21 := ⟨fun k => nm_gt_frn F hL (by decide) (by decide), nm_gt_frd (g := [(214, 21, 22)]) F hL (by decide) (by decide) (by decide)⟩
theorem rm_Y_m {M M1 M2 : am_M} {cl cl1 sz : Int} (hL : nm_Lay M1) (h : rm_Y M M1 cl sz) (mv : rm_mv M1 M2 cl1) (hc : cl ≤ cl1) : rm_Y M M2 cl sz := ⟨nm_Fr_trans h.1 (nm_Fr_sub mv.1 (by decide)), fun k a b => ⟨(mv.2 k a (by omega)).1.trans (h.2.1 k a b).1, (mv.2 k a (by omega)).2.trans (h.2.1 k a b).2⟩, fun k a => ((rm_xg_45 hL mv.1).1 k).trans (h.2.2.1 k a), ((rm_xg_45 hL mv.1).2).trans h.2.2.2⟩
section
variable {d : Nat} {T : tk_T} {s n cl sz kd : Int} {M : am_M} {Q : List am_V → am_M → Prop}
/-- wrong: on to the end -/
theorem rm_o241 {M2 : am_M} {p x3 : Int} (hL : nm_Lay M) (z0 : 0 ≤ sz) (z1 : sz < 12) (F2 : nm_Fr rm_og M M2) (b19 : am_gt M2 214 19 = 1) (b18 : am_gt M2 214 18 = p) (hE : ∀ M', nm_Fr rm_og M M' → nm_Lay M' → am_gt M' 214 19 = 1 → am_gt M' 214 18 = p → Q [] M') : am_WP d am_c250 241 [(2, 214), (0, kd), (0, 8 * sz), (0, x3)] [] M2 Q := by
  have L2 := nm_Lay_fr hL F2 (by decide +kernel)
  have w6 : am_w (8 * sz + 6) = 8 * sz + 6 := am_w_id (by omega) (by omega)
  refine h_250_241 L2 ?_
  rw [w6]
  have F3 : nm_Fr rm_og M (am_st M2 245 (8 * sz + 6) (am_gt M2 214 23)) := nm_Fst F2 (lo := 0) (hi := 96) (by simp only [List.mem_cons, true_or, or_true]) (by omega) (by omega)
  exact ⟨by omega, by omega, hE _ F3 (nm_Lay_fr hL F3 (by decide +kernel)) ((rm_45c (by decide)).trans b19) ((rm_45c (by decide)).trans b18)⟩
theorem rm_o155 {M2 : am_M} {p x3 : Int} (hL : nm_Lay M) (z0 : 0 ≤ sz) (z1 : sz < 12) (F2 : nm_Fr rm_og M M2) (b19 : am_gt M2 214 19 = 1) (b18 : am_gt M2 214 18 = p) (hE : ∀ M', nm_Fr rm_og M M' → nm_Lay M' → am_gt M' 214 19 = 1 → am_gt M' 214 18 = p → Q [] M') : am_WP d am_c250 155 [(2, 214), (0, kd), (0, 8 * sz), (0, x3)] [] M2 Q := by
  have L2 := nm_Lay_fr hL F2 (by decide +kernel)
  have w7 : am_w (8 * sz + 7) = 8 * sz + 7 := am_w_id (by omega) (by omega)
  have w5 : am_w (8 * sz + 5) = 8 * sz + 5 := am_w_id (by omega) (by omega)
  refine h_250_155 L2 ?_
  rw [w7, w5]
  have F3 : nm_Fr rm_og M (am_st (am_st M2 245 (8 * sz + 7) 1) 245 (8 * sz + 5) (am_gt M2 214 23)) := nm_Fst (nm_Fst F2 (lo := 0) (hi := 96) (by simp only [List.mem_cons, true_or, or_true]) (by omega) (by omega)) (lo := 0) (hi := 96) (by simp only [List.mem_cons, true_or, or_true]) (by omega) (by omega)
  exact ⟨by omega, by omega, fun _ => ⟨by omega, by omega, fun _ => rm_o241 hL z0 z1 F3 (((rm_45c (by decide)).trans (rm_45c (by decide))).trans b19) (((rm_45c (by decide)).trans (rm_45c (by decide))).trans b18) hE, fun h => absurd (by rw [b19]; decide) h⟩, fun h => absurd (by rw [b19]; decide) h⟩
theorem rm_o148 {M2 : am_M} {p x3 : Int} (hd : 2 ≤ d) (hL : nm_Lay M) (z0 : 0 ≤ sz) (z1 : sz < 12) (F2 : nm_Fr rm_og M M2) (b19 : am_gt M2 214 19 = 1) (b18 : am_gt M2 214 18 = p) (hE : ∀ M', nm_Fr rm_og M M' → nm_Lay M' → am_gt M' 214 19 = 1 → am_gt M' 214 18 = p → Q [] M') : am_WP d am_c250 148 [(2, 214), (0, kd), (0, 8 * sz), (0, x3)] [] M2 Q := by
  have L2 := nm_Lay_fr hL F2 (by decide +kernel)
  have w3 : am_w (8 * sz + 3) = 8 * sz + 3 := am_w_id (by omega) (by omega)
  have w4 : am_w (8 * sz + 3 + 1) = 8 * sz + 4 := by rw [am_w_id (by omega) (by omega)]; omega
  refine h_250_148 L2 ⟨by omega, ?_⟩
  rw [w3]
  have F3 : nm_Fr rm_og M (am_st M2 245 (8 * sz + 3) (am_gt M2 214 23)) := nm_Fst F2 (lo := 0) (hi := 96) (by simp only [List.mem_cons, true_or, or_true]) (by omega) (by omega)
  refine h_249_0 L2 ⟨by omega, by omega, fun _ => h_249_22 (nm_Lay_fr hL F3 (by decide +kernel)) ?_, fun h => absurd (by rw [b19]; decide) h⟩
  rw [w4]
  have F4 : nm_Fr rm_og M (am_st (am_st M2 245 (8 * sz + 3) (am_gt M2 214 23)) 245 (8 * sz + 4) (am_gt (am_st M2 245 (8 * sz + 3) (am_gt M2 214 23)) 214 23)) := nm_Fst F3 (lo := 0) (hi := 96) (by simp only [List.mem_cons, true_or, or_true]) (by omega) (by omega)
  exact ⟨by omega, by omega, rm_o155 hL z0 z1 F4 (((rm_45c (by decide)).trans (rm_45c (by decide))).trans b19) (((rm_45c (by decide)).trans (rm_45c (by decide))).trans b18) hE⟩
theorem rm_o125 {M2 : am_M} {p x3 : Int} (hd : 2 ≤ d) (hL : nm_Lay M) (z0 : 0 ≤ sz) (z1 : sz < 12) (F2 : nm_Fr rm_og M M2) (b19 : am_gt M2 214 19 = 1) (b18 : am_gt M2 214 18 = p) (hE : ∀ M', nm_Fr rm_og M M' → nm_Lay M' → am_gt M' 214 19 = 1 → am_gt M' 214 18 = p → Q [] M') : am_WP d am_c250 125 [(2, 214), (0, kd), (0, 8 * sz), (0, x3)] [] M2 Q := by
  have L2 := nm_Lay_fr hL F2 (by decide +kernel)
  exact h_250_125 L2 ⟨fun _ => rm_o155 hL z0 z1 F2 b19 b18 hE, fun _ => ⟨fun _ => rm_o148 hd hL z0 z1 F2 b19 b18 hE, fun h => absurd (by rw [b19]; decide) h⟩⟩
/-- what was read of a clause up to its test -/
def rm_up (M2 : am_M) (sz kd cl2 : Int) (f g : rd_F) : Prop := am_gt M2 245 (8 * sz) = kd ∧ ((kd = 3 ∧ am_gt M2 245 (8 * sz + 1) = am_gt M2 245 (8 * sz + 2)) ∨ (kd ≠ 3 ∧ rm_blk M2 1 (am_gt M2 245 (8 * sz + 1)) (am_gt M2 245 (8 * sz + 2)) cl2 f)) ∧ ((kd ≠ 2 ∧ am_gt M2 245 (8 * sz + 3) = am_gt M2 245 (8 * sz + 4)) ∨ (kd = 2 ∧ rm_blk M2 1 (am_gt M2 245 (8 * sz + 3)) (am_gt M2 245 (8 * sz + 4)) cl2 g))
theorem rm_up_m {M2 M3 : am_M} {sz kd cl2 cl3 : Int} {f g : rd_F} (h : rm_up M2 sz kd cl2 f g) (hc : ∀ k, 0 ≤ k → k < cl2 → am_gt M3 225 k = am_gt M2 225 k ∧ am_gt M3 226 k = am_gt M2 226 k) (h3 : ∀ i, i < 8 * sz + 5 → am_gt M3 245 i = am_gt M2 245 i) (hl : cl2 ≤ cl3) : rm_up M3 sz kd cl3 f g := by
  obtain ⟨a, b, e⟩ := h
  unfold rm_up
  rw [h3 _ (by omega), h3 _ (by omega), h3 _ (by omega), h3 _ (by omega), h3 _ (by omega)]
  refine ⟨a, ?_, ?_⟩
  · rcases b with b | ⟨b1, b2⟩
    · exact .inl b
    · exact .inr ⟨b1, rm_blk_m b2 hc hl⟩
  · rcases e with b | ⟨b1, b2⟩
    · exact .inl b
    · exact .inr ⟨b1, rm_blk_m b2 hc hl⟩
/-- the test -/
theorem rm_otst {M3 : am_M} {f g : rd_F} {v s3 n3 cl3 x3 : Int} (hd : 10 ≤ d) (hT : tk_ok T) (hL : nm_Lay M) (z0 : 0 ≤ sz) (z1 : sz < 12) (Y3 : rm_Y M M3 cl sz) (st3 : rm_st M3 T 1 s3 n3 cl3) (hc : cl ≤ cl3) (hs : cl3 ≤ s3) (up : rm_up M3 sz kd cl3 f g) (v5 : am_gt M3 245 (8 * sz + 5) = cl3) (v7 : am_gt M3 245 (8 * sz + 7) = v)
    (hE : ∀ p M', rd_c4 T 1 kd f g v s3 n3 = .error p → nm_Fr rm_og M M' → nm_Lay M' → am_gt M' 214 19 = 1 → am_gt M' 214 18 = p → Q [] M')
    (hK : ∀ c s4 n4 M' cl', rd_c4 T 1 kd f g v s3 n3 = .ok (c, s4, n4) → rm_Y M M' cl sz → rm_st M' T 1 s4 n4 cl' → cl ≤ cl' → cl' ≤ s4 → rm_oc M' cl' sz c → Q [] M') : am_CL (d - 1) 177 [(2, 214), (1, 294)] M3 (fun r M' => am_WP d am_c250 229 [(2, 214), (0, kd), (0, 8 * sz), (0, x3)] (r ++ []) M' Q) := by
  have t4 := hT.2.1
  have s34 := st3.2.2.2.2.2.2.2.2.1
  have s30 := st3.2.2.2.2.2.2.2.1
  have c0 := st3.2.2.2.2.2.2.2.2.2.2.2
  have he := tk_se s34
  have w6 : am_w (8 * sz + 6) = 8 * sz + 6 := am_w_id (by omega) (by omega)
  have fin : ∀ (M5 : am_M) (t : Option rd_F) (s4 n4 cl5 : Int), rd_c4 T 1 kd f g v s3 n3 = .ok ((kd, f, g, v, t), s4, n4) → rm_Y M M5 cl sz → rm_st M5 T 1 s4 n4 cl5 → cl ≤ cl5 → cl5 ≤ s4 → rm_up M5 sz kd cl5 f g → am_gt M5 245 (8 * sz + 7) = v → ((t = none ∧ am_gt M5 245 (8 * sz + 5) = cl5) ∨ ∃ g', t = some g' ∧ rm_blk M5 1 (am_gt M5 245 (8 * sz + 5)) cl5 cl5 g') → am_WP d am_c250 241 [(2, 214), (0, kd), (0, 8 * sz), (0, x3)] [] M5 Q := by
    intro M5 t s4 n4 cl5 hok Y5 st5 hc5 hs5 up5 v75 bt
    refine h_250_241 st5.1 ?_
    rw [w6, st5.2.2.2.2.2.1]
    have kc : ∀ k, 0 ≤ k → k < cl5 → am_gt (am_st M5 245 (8 * sz + 6) cl5) 225 k = am_gt M5 225 k ∧ am_gt (am_st M5 245 (8 * sz + 6) cl5) 226 k = am_gt M5 226 k := fun k _ _ => ⟨rm_45c (by decide), rm_45c (by decide)⟩
    refine ⟨by omega, by omega, hK _ s4 n4 _ cl5 hok (rm_Y45 Y5 z0 (by omega) (by omega)) (rm_st45 st5 (by omega) (by omega)) hc5 hs5 ?_⟩
    obtain ⟨u1, u2, u3⟩ := rm_up_m up5 (M3 := am_st M5 245 (8 * sz + 6) cl5) kc (fun i hi => rm_45k (by omega)) (Int.le_refl _)
    refine ⟨u1, u2, u3, ?_, (rm_45k (by omega)).trans v75⟩
    rw [rm_45k (k := 8 * sz + 5) (by omega), rm_45e]
    rcases bt with ⟨e1, e2⟩ | ⟨g', e1, e2⟩
    · exact .inl ⟨e1, by omega⟩
    · exact .inr ⟨g', e1, rm_B_lt e2.1, rm_blk_m e2 kc (Int.le_refl _)⟩
  refine rm_177 29 (by decide +kernel) st3.1 st3.2.2.1 s34 ?_
  by_cases e29 : tk_x T s3 = rd_tx 29
  · rw [if_pos e29]
    have adv := tk_advx 29 (by decide) s34 e29
    refine h_250_229 st3.1 ⟨fun h => absurd h (by decide), fun _ => ⟨by omega, rm_176 (by omega) st3.1 hT st3.2.1 st3.2.2.1.2.1 (by omega) he.2 (fun M4 F4 hk4 => ?_)⟩⟩
    have st4 := rm_st_n st3 F4 hk4 (by omega) he.2
    have mv4 : rm_mv M3 M4 cl3 := rm_mv_n st3.1 F4
    have Y4 := rm_Y_m st3.1 Y3 mv4 hc
    refine h_250_236 st4.1 ⟨by omega, rm_196 (g := rd_test T 1 8) (by omega) hT (.inr rfl) (.inr ⟨rfl, rfl⟩) st4 (by omega) (fun p M5 hp F5 L5 b19 b18 => ?_) (fun f5 s5 n5' M5 cl5 hok mv5 st5 hs5 B5 => ?_)⟩
    · exact rm_o241 hL z0 z1 (nm_Fr_trans (nm_Fr_sub Y4.1 (by decide)) (nm_Fr_sub F5 (by decide))) b19 b18 (fun M' a b c e => hE p M' (by unfold rd_c4 rd_tst; rw [if_pos e29, hp]) a b c e)
    · have lt5 := rm_B_lt B5
      have k5 : ∀ k, am_gt M5 245 k = am_gt M3 245 k := fun k => ((rm_xg_45 st4.1 mv5.1).1 k).trans ((rm_xg_45 st3.1 mv4.1).1 k)
      have kc5 : ∀ k, 0 ≤ k → k < cl3 → am_gt M5 225 k = am_gt M3 225 k ∧ am_gt M5 226 k = am_gt M3 226 k := fun k a b => ⟨(mv5.2 k a b).1.trans (mv4.2 k a b).1, (mv5.2 k a b).2.trans (mv4.2 k a b).2⟩
      refine fin M5 (some f5) s5 n5' cl5 (by unfold rd_c4 rd_tst; rw [if_pos e29, hok]) (rm_Y_m st4.1 Y4 mv5 hc) st5 (by omega) hs5 (rm_up_m up kc5 (fun i _ => k5 i) (by omega)) ((k5 _).trans v7) (.inr ⟨f5, rfl, ?_⟩)
      rw [k5, v5]; exact ⟨B5, c0, Int.le_refl _⟩
  · rw [if_neg e29]
    exact h_250_229 st3.1 ⟨fun _ => fin M3 none s3 n3 cl3 (by unfold rd_c4 rd_tst; rw [if_neg e29]) Y3 st3 hc hs up v7 (.inl ⟨rfl, v5⟩), fun h => absurd rfl h⟩
/-- how many times -/
theorem rm_otim {M2 : am_M} {f g : rd_F} {s2 n2 cl2 x3 : Int} (hd : 10 ≤ d) (hT : tk_ok T) (hL : nm_Lay M) (z0 : 0 ≤ sz) (z1 : sz < 12) (Y2 : rm_Y M M2 cl sz) (st2 : rm_st M2 T 1 s2 n2 cl2) (hc : cl ≤ cl2) (hs : cl2 ≤ s2) (up : rm_up M2 sz kd cl2 f g)
    (hE : ∀ p M', rd_c3 T 1 kd f g s2 n2 = .error p → nm_Fr rm_og M M' → nm_Lay M' → am_gt M' 214 19 = 1 → am_gt M' 214 18 = p → Q [] M')
    (hK : ∀ c s4 n4 M' cl', rd_c3 T 1 kd f g s2 n2 = .ok (c, s4, n4) → rm_Y M M' cl sz → rm_st M' T 1 s4 n4 cl' → cl ≤ cl' → cl' ≤ s4 → rm_oc M' cl' sz c → Q [] M') : am_WP d am_c250 155 [(2, 214), (0, kd), (0, 8 * sz), (0, x3)] [] M2 Q := by
  have t4 := hT.2.1
  have s24 := st2.2.2.2.2.2.2.2.2.1
  have s20 := st2.2.2.2.2.2.2.2.1
  have he := tk_se s24
  have w7 : am_w (8 * sz + 7) = 8 * sz + 7 := am_w_id (by omega) (by omega)
  have w5 : am_w (8 * sz + 5) = 8 * sz + 5 := am_w_id (by omega) (by omega)
  have stA := rm_st45 (i := 8 * sz + 7) (v := 1) st2 (by omega) (by omega)
  have YA := rm_Y45 (i := 8 * sz + 7) (v := 1) Y2 z0 (by omega) (by omega)
  have upA := rm_up_m up (M3 := am_st M2 245 (8 * sz + 7) 1) (fun k _ _ => ⟨rm_45c (by decide), rm_45c (by decide)⟩) (fun i hi => rm_45k (by omega)) (Int.le_refl _)
  have vA : am_gt (am_st M2 245 (8 * sz + 7) 1) 245 (8 * sz + 7) = 1 := rm_45e
  -- store where the test begins, and read it
  have go : ∀ (M3 : am_M) (v s3 : Int), rd_tim T 1 s2 = .ok (v, s3) → rm_Y M M3 cl sz → rm_st M3 T 1 s3 n2 cl2 → s2 ≤ s3 → rm_up M3 sz kd cl2 f g → am_gt M3 245 (8 * sz + 7) = v → am_CL (d - 1) 177 [(2, 214), (1, 294)] (am_st M3 245 (8 * sz + 5) cl2) (fun r M' => am_WP d am_c250 229 [(2, 214), (0, kd), (0, 8 * sz), (0, x3)] (r ++ []) M' Q) := by
    intro M3 v s3 hok Y3 st3 hs3 up3 hv
    have e : rd_c3 T 1 kd f g s2 n2 = rd_c4 T 1 kd f g v s3 n2 := by unfold rd_c3; rw [hok]
    rw [e] at hE hK
    exact rm_otst hd hT hL z0 z1 (rm_Y45 Y3 z0 (by omega) (by omega)) (rm_st45 st3 (by omega) (by omega)) hc (by omega) (rm_up_m up3 (fun k _ _ => ⟨rm_45c (by decide), rm_45c (by decide)⟩) (fun i hi => rm_45k (by omega)) (Int.le_refl _)) rm_45e ((rm_45k (by omega)).trans hv) hE hK
  refine h_250_155 st2.1 ?_
  rw [w7, w5]
  refine ⟨by omega, by omega, fun h => absurd st2.2.2.2.2.2.2.1 h, fun _ => ⟨by omega, rm_177 28 (by decide +kernel) stA.1 stA.2.2.1 s24 ?_⟩⟩
  generalize am_st M2 245 (8 * sz + 7) 1 = MA at stA YA upA vA ⊢
  by_cases e28 : tk_x T s2 = rd_tx 28
  · rw [if_pos e28]
    refine h_250_179 stA.1 ⟨fun h => absurd h (by decide), fun _ => ⟨by omega, rm_176 (by omega) stA.1 hT stA.2.1 stA.2.2.1.2.1 (by omega) he.2 (fun M3 F3 hk3 => ?_)⟩⟩
    have st3 := rm_st_n stA F3 hk3 (by omega) he.2
    have mv3 : rm_mv MA M3 cl2 := rm_mv_n stA.1 F3
    have Y3 := rm_Y_m stA.1 YA mv3 hc
    have up3 := rm_up_m upA (M3 := M3) mv3.2 (fun i _ => (rm_xg_45 stA.1 mv3.1).1 i) (Int.le_refl _)
    have he2 := tk_se he.2
    refine h_250_186 st3.1 ⟨by omega, ?_⟩
    rw [w7]
    by_cases hn : tk_n T (tk_e T s2) 1 20
    · refine rm_180y hn (by omega) st3.1 hT st3.2.1 st3.2.2.1 (by omega) he.2 st3.2.2.2.2.2.2.1 (fun M4 F4 hk4 => ?_)
      have st4 := rm_st_n st3 F4 hk4 (by omega) he2.2
      have mv4 : rm_mv M3 M4 cl2 := rm_mv_n st3.1 F4
      have Y4 := rm_Y_m st3.1 Y3 mv4 hc
      have up4 := rm_up_m up3 (M3 := M4) mv4.2 (fun i _ => (rm_xg_45 st3.1 mv4.1).1 i) (Int.le_refl _)
      have st5 := rm_st45 (i := 8 * sz + 7) (v := tk_w T (tk_e T s2)) st4 (by omega) (by omega)
      have Y5 := rm_Y45 (i := 8 * sz + 7) (v := tk_w T (tk_e T s2)) Y4 z0 (by omega) (by omega)
      have up5 := rm_up_m up4 (M3 := am_st M4 245 (8 * sz + 7) (tk_w T (tk_e T s2))) (fun k _ _ => ⟨rm_45c (by decide), rm_45c (by decide)⟩) (fun i hi => rm_45k (by omega)) (Int.le_refl _)
      refine h_250_202 st4.1 ?_
      rw [w5, st4.2.2.2.2.2.1]
      refine ⟨by omega, by omega, by omega, by omega, fun h => absurd st4.2.2.2.2.2.2.1 h, fun _ => ⟨by omega, ?_⟩⟩
      exact go _ (tk_w T (tk_e T s2)) (tk_e T (tk_e T s2)) (by unfold rd_tim; rw [if_pos ⟨by decide, e28⟩, if_pos hn]) Y5 st5 (by omega) up5 rm_45e
    · have Fb : nm_Fr rm_og M (am_st (am_st M3 214 19 1) 214 18 (tk_b T (tk_e T s2))) := nm_Fr_st (nm_Fr_st (nm_Fr_sub Y3.1 (by decide)) (by decide)) (by decide)
      have Lb := nm_Lay_fr hL Fb (by decide +kernel)
      have b19 : am_gt (am_st (am_st M3 214 19 1) 214 18 (tk_b T (tk_e T s2))) 214 19 = 1 := by rw [nm_st_nj (by decide), nm_st_eq]
      have b18 : am_gt (am_st (am_st M3 214 19 1) 214 18 (tk_b T (tk_e T s2))) 214 18 = tk_b T (tk_e T s2) := nm_st_eq
      refine rm_180n hn (by omega) st3.1 st3.2.2.1 st3.2.2.2.2.2.2.1 (fun v => h_250_202 Lb ?_)
      rw [w5]
      generalize am_st (am_st M3 214 19 1) 214 18 (tk_b T (tk_e T s2)) = Mb at Fb Lb b19 b18 ⊢
      have F6 : nm_Fr rm_og M (am_st (am_st Mb 245 (8 * sz + 7) v) 245 (8 * sz + 5) (am_gt Mb 214 23)) := nm_Fst (nm_Fst Fb (lo := 0) (hi := 96) (by simp only [List.mem_cons, true_or, or_true]) (by omega) (by omega)) (lo := 0) (hi := 96) (by simp only [List.mem_cons, true_or, or_true]) (by omega) (by omega)
      refine ⟨by omega, by omega, by omega, by omega, fun _ => rm_o241 hL z0 z1 F6 (((rm_45c (by decide)).trans (rm_45c (by decide))).trans b19) (((rm_45c (by decide)).trans (rm_45c (by decide))).trans b18) (fun M' a b c e => hE _ M' ?_ a b c e), fun h => absurd (by rw [b19]; decide) h⟩
      unfold rd_c3 rd_tim; rw [if_pos ⟨by decide, e28⟩, if_neg hn]
  · rw [if_neg e28]
    refine h_250_179 stA.1 ⟨fun _ => ?_, fun h => absurd rfl h⟩
    rw [w5, stA.2.2.2.2.2.1]
    exact ⟨by omega, by omega, fun h => absurd stA.2.2.2.2.2.2.1 h, fun _ => ⟨by omega, go MA 1 s2 (by unfold rd_tim; rw [if_neg (fun q => e28 q.2)]) YA stA (Int.le_refl _) upA vA⟩⟩
end
