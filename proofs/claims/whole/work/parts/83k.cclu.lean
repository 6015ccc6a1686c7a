/-! CLAUSES, PURE; THE CLASS READS THEM -/
/-- kind, first sum, second sum, how many times, test -/
abbrev rd_C : Type := Int × rd_F × rd_F × Int × Option rd_F
abbrev rd_RC : Type := Except Int (rd_C × Int × Int)
def rd_kd (o : Int) (x : List Int) : Int := if o = 0 then rd_lk x else rd_okk x
def rd_fst (T : tk_T) (o kd s n : Int) : rd_R := if kd = 3 then .ok (rd_0, s, n) else rd_sum T o 8 s n
def rd_snd (T : tk_T) (o kd s n : Int) : rd_R := if o ≠ 0 ∧ kd = 2 then (if tk_x T s = rd_tx 27 then rd_sum T o 8 (tk_e T s) n else .error (tk_b T s)) else .ok (rd_0, s, n)
def rd_tim (T : tk_T) (o s : Int) : Except Int (Int × Int) := if o ≠ 0 ∧ tk_x T s = rd_tx 28 then (if tk_n T (tk_e T s) 1 20 then .ok (tk_w T (tk_e T s), tk_e T (tk_e T s)) else .error (tk_b T (tk_e T s))) else .ok (1, s)
def rd_tst (T : tk_T) (o s n : Int) : Except Int (Option rd_F × Int × Int) := if tk_x T s = rd_tx 29 then (match rd_test T o 8 (tk_e T s) n with
  | .error p => .error p
  | .ok (g, s1, n1) => .ok (some g, s1, n1)) else .ok (none, s, n)
def rd_c4 (T : tk_T) (o kd : Int) (f g : rd_F) (v s n : Int) : rd_RC := match rd_tst T o s n with
  | .error p => .error p
  | .ok (t, s4, n4) => .ok ((kd, f, g, v, t), s4, n4)
def rd_c3 (T : tk_T) (o kd : Int) (f g : rd_F) (s n : Int) : rd_RC := match rd_tim T o s with
  | .error p => .error p
  | .ok (v, s3) => rd_c4 T o kd f g v s3 n
def rd_c2 (T : tk_T) (o kd : Int) (f : rd_F) (s n : Int) : rd_RC := match rd_snd T o kd s n with
  | .error p => .error p
  | .ok (g, s2, n2) => rd_c3 T o kd f g s2 n2
def rd_cls (T : tk_T) (o s n sz : Int) : rd_RC := if rd_kd o (tk_x T s) = -1 ∨ 12 ≤ sz then .error (tk_b T s) else match rd_fst T o (rd_kd o (tk_x T s)) (tk_e T s) n with
  | .error p => .error p
  | .ok (f, s1, n1) => rd_c2 T o (rd_kd o (tk_x T s)) f s1 n1
theorem rd_kd_n (o : Int) (x : List Int) : rd_kd o x = -1 ∨ (x ≠ [] ∧ 0 ≤ rd_kd o x ∧ rd_kd o x ≤ 3) := by
  by_cases hx : x = []
  · subst hx; unfold rd_kd; split <;> decide +kernel
  · unfold rd_kd
    split
    · rcases rd_at_lk x with h | h | h | h | h
      · exact .inl h.1
      all_goals exact .inr ⟨hx, by omega, by omega⟩
    · rcases rd_at_ok x with h | h | h | h | h
      · exact .inl h.1
      all_goals exact .inr ⟨hx, by omega, by omega⟩
abbrev rc_cg : nm_Rg := [(30, 2, 3), (30, 4, 9), (30, 10, 11), (30, 12, 13), (32, 0, 436), (33, 0, 60)]
def rc_blk (M : am_M) (o i cl : Int) (f : rd_F) : Prop := ∃ j, nm_CB (nm_mN o) (am_gt M 32) i j 64 f ∧ am_gt M 32 j = 0 ∧ 0 ≤ i ∧ j < cl
theorem rc_blk_m {M M' : am_M} {o i cl cl' : Int} {f : rd_F} (h : rc_blk M o i cl f) (hc : ∀ k, 0 ≤ k → k < cl → am_gt M' 32 k = am_gt M 32 k) (hl : cl ≤ cl') : rc_blk M' o i cl' f := by
  obtain ⟨j, h1, h2, h3, h4⟩ := h
  have := h1.1
  exact ⟨j, nm_CB_c h1 (fun k a b => hc k (by omega) (by omega)), (hc j (by omega) h4).trans h2, h3, by omega⟩
/-- a clause of the class -/
def rc_cla (M : am_M) (o cl k : Int) (c : rd_C) : Prop := am_gt M 33 (5 * k) = c.1 ∧ (c.1 ≠ 3 → rc_blk M o (am_gt M 33 (5 * k + 1)) cl c.2.1) ∧ (o ≠ 0 ∧ c.1 = 2 → rc_blk M o (am_gt M 33 (5 * k + 2)) cl c.2.2.1) ∧ am_gt M 33 (5 * k + 3) = c.2.2.2.1 ∧ ((c.2.2.2.2 = none ∧ am_gt M 33 (5 * k + 4) = -1) ∨ ∃ g, c.2.2.2.2 = some g ∧ 0 ≤ am_gt M 33 (5 * k + 4) ∧ rc_blk M o (am_gt M 33 (5 * k + 4)) cl g)
theorem rc_cla_m {M M' : am_M} {o cl cl' k : Int} {c : rd_C} (h : rc_cla M o cl k c) (hc : ∀ k, 0 ≤ k → k < cl → am_gt M' 32 k = am_gt M 32 k) (h3 : ∀ i, i < 5 * k + 5 → am_gt M' 33 i = am_gt M 33 i) (hl : cl ≤ cl') : rc_cla M' o cl' k c := by
  obtain ⟨a, b, e, f, g⟩ := h
  unfold rc_cla
  rw [h3 _ (by omega), h3 _ (by omega), h3 _ (by omega), h3 _ (by omega), h3 _ (by omega)]
  refine ⟨a, fun q => rc_blk_m (b q) hc hl, fun q => rc_blk_m (e q) hc hl, f, ?_⟩
  rcases g with g | ⟨g, g1, g2, g3⟩
  · exact .inl g
  · exact .inr ⟨g, g1, g2, rc_blk_m g3 hc hl⟩
/-- so far in a clause -/
def rc_Z (M M1 : am_M) (cl sz : Int) : Prop := nm_Fr rc_cg M M1 ∧ am_gt M1 30 2 = am_gt M 30 2 ∧ am_gt M1 30 12 = sz ∧ (∀ k, 0 ≤ k → k < cl → am_gt M1 32 k = am_gt M 32 k) ∧ ∀ k, k < 5 * sz → am_gt M1 33 k = am_gt M 33 k
theorem rc_fg_k {M M1 : am_M} (hL : nm_Lay M) (F : nm_Fr rc_fg M M1) : am_gt M1 30 12 = am_gt M 30 12 ∧ ∀ k, am_gt M1 33 k = am_gt M 33 k := ⟨nm_gt_frd (g := [(30, 12, 13)]) F hL (by decide) (by decide) (by decide), fun k => nm_gt_frn F hL (by decide) (by decide)⟩
theorem rc_Z_m {M M1 M2 : am_M} {cl cl1 sz : Int} (hL : nm_Lay M1) (h : rc_Z M M1 cl sz) (mv : rc_mv M1 M2 cl1) (hc : cl ≤ cl1) : rc_Z M M2 cl sz := by
  obtain ⟨a, b, c, e, f⟩ := h
  obtain ⟨k1, k2⟩ := rc_fg_k hL mv.1
  exact ⟨nm_Fr_trans a (nm_Fr_sub mv.1 (by decide)), mv.2.1.trans b, k1.trans c, fun k x y => (mv.2.2 k x (by omega)).trans (e k x y), fun k x => (k2 k).trans (f k x)⟩
theorem rc_st33 {M : am_M} {T : tk_T} {o s n cl i v : Int} (h : rc_st M T o s n cl) (h0 : 0 ≤ i) (h6 : i < 60) : rc_st (am_st M 33 i v) T o s n cl := by
  obtain ⟨hL, hP, hS, g3, g8, g10, rest⟩ := h
  have F : nm_Fr [(33, 0, 60)] M (am_st M 33 i v) := nm_Fst (nm_Fg_refl _ _) (List.mem_singleton.mpr rfl) h0 h6
  have g : ∀ a k, a ≠ 33 → am_gt (am_st M 33 i v) a k = am_gt M a k := fun a k ha => by rw [nm_gt_st, if_neg (fun q => ha q.1)]
  exact ⟨nm_Lay_fr hL F (by decide +kernel), ⟨(g _ _ (by decide)).trans hP.1, fun k a b => (g _ _ (by decide)).trans (hP.2 k a b)⟩, ⟨(g _ _ (by decide)).trans hS.1, (g _ _ (by decide)).trans hS.2.1, (g _ _ (by decide)).trans hS.2.2.1, (g _ _ (by decide)).trans hS.2.2.2⟩, (g _ _ (by decide)).trans g3, (g _ _ (by decide)).trans g8, (g _ _ (by decide)).trans g10, rest⟩
theorem rc_Z33 {M M1 : am_M} {cl sz i v : Int} (h : rc_Z M M1 cl sz) (h0 : 0 ≤ sz) (h1 : 5 * sz ≤ i) (h6 : i < 60) : rc_Z M (am_st M1 33 i v) cl sz := by
  obtain ⟨a, b, c, e, f⟩ := h
  have g : ∀ a k, a ≠ 33 → am_gt (am_st M1 33 i v) a k = am_gt M1 a k := fun a k ha => by rw [nm_gt_st, if_neg (fun q => ha q.1)]
  refine ⟨nm_Fst a (lo := 0) (hi := 60) (by simp only [List.mem_cons, true_or, or_true]) (by omega) h6, (g _ _ (by decide)).trans b, (g _ _ (by decide)).trans c, fun k x y => (g _ _ (by decide)).trans (e k x y), fun k x => ?_⟩
  rw [nm_gt_st, if_neg (fun q => by omega)]; exact f k x
theorem rc_33k {M : am_M} {i v k : Int} (h : k ≠ i) : am_gt (am_st M 33 i v) 33 k = am_gt M 33 k := by rw [nm_gt_st, if_neg (fun q => h q.2)]
theorem rc_33e {M : am_M} {i v : Int} : am_gt (am_st M 33 i v) 33 i = v := by rw [nm_gt_st, if_pos ⟨rfl, rfl⟩]
theorem rc_33c {M : am_M} {i v a k : Int} (h : a ≠ 33) : am_gt (am_st M 33 i v) a k = am_gt M a k := by rw [nm_gt_st, if_neg (fun q => h q.1)]
/-- a stretch and its stop -/
theorem rc_stop {M M' : am_M} {o i cl ht : Int} {f : rd_F} (h0 : 0 ≤ i) (hh : ht ≤ 64) (h : nm_CB (nm_mN o) (am_gt M 32) i cl ht f) (hk : ∀ k, 0 ≤ k → k < cl → am_gt M' 32 k = am_gt M 32 k) (he : am_gt M' 32 cl = nm_cw 0 0) : rc_blk M' o i (cl + 1) f := ⟨cl, nm_CB_h (nm_CB_c h (fun k a b => hk k (by omega) b)) hh, he, h0, by omega⟩
theorem rc_t4 {d : Nat} {T : tk_T} {o s1 n1 cl0 cl1 sz kd v : Int} {f g : rd_F} {M0 M1 : am_M} {Q : List am_V → am_M → Prop} (hd : 27 ≤ d) (hT : tk_ok T) (ho : o = 0 ∨ o = 1) (z0 : 0 ≤ sz) (z1 : sz < 12) (hZ : rc_Z M0 M1 cl0 sz) (hst : rc_st M1 T o s1 n1 cl1) (hcl : cl0 ≤ cl1) (hsl : cl1 - s1 ≤ 3 * sz + 2) (b0 : am_gt M1 33 (5 * sz) = kd) (b1 : kd ≠ 3 → rc_blk M1 o (am_gt M1 33 (5 * sz + 1)) cl1 f) (b2 : o ≠ 0 ∧ kd = 2 → rc_blk M1 o (am_gt M1 33 (5 * sz + 2)) cl1 g) (b3 : am_gt M1 33 (5 * sz + 3) = v)
    (hE : ∀ p M' s' n' cl', rd_c4 T o kd f g v s1 n1 = .error p → nm_Fr rc_cg M0 M' → rc_st M' T o s' n' cl' → am_gt M' 30 2 = p → Q [(0, 0)] M')
    (hK : ∀ c s4 n4 M' cl', rd_c4 T o kd f g v s1 n1 = .ok (c, s4, n4) → rc_Z M0 M' cl0 (sz + 1) ∨ True → nm_Fr rc_cg M0 M' → am_gt M' 30 2 = am_gt M0 30 2 → (∀ k, 0 ≤ k → k < cl0 → am_gt M' 32 k = am_gt M0 32 k) → (∀ k, k < 5 * sz → am_gt M' 33 k = am_gt M0 33 k) → rc_st M' T o s4 n4 cl' → am_gt M' 30 12 = sz + 1 → cl0 ≤ cl' → cl' - s4 ≤ 3 * (sz + 1) → rc_cla M' o cl' sz c → Q [(0, 1)] M') : am_WP d am_c105 193 [(2, 30), (0, kd), (0, 5 * sz)] [] M1 Q := by
  have t4 := hT.2.1
  have s14 := hst.2.2.2.2.2.2.2.1
  have c0 := hst.2.2.2.2.2.2.2.2.2.2.1
  have he := tk_se s14
  -- the end
  have fin : ∀ (M2 : am_M) (s4 n4 cl2 : Int) (t : Option rd_F), rd_c4 T o kd f g v s1 n1 = .ok ((kd, f, g, v, t), s4, n4) → rc_Z M0 M2 cl0 sz → rc_st M2 T o s4 n4 cl2 → cl1 ≤ cl2 → cl2 - s4 ≤ 3 * sz + 3 → (∀ k, 0 ≤ k → k < cl1 → am_gt M2 32 k = am_gt M1 32 k) → (∀ k, k < 5 * sz + 4 → am_gt M2 33 k = am_gt M1 33 k) → ((t = none ∧ am_gt M2 33 (5 * sz + 4) = -1) ∨ ∃ g', t = some g' ∧ 0 ≤ am_gt M2 33 (5 * sz + 4) ∧ rc_blk M2 o (am_gt M2 33 (5 * sz + 4)) cl2 g') → am_WP d am_c105 243 [(2, 30), (0, kd), (0, 5 * sz)] [] M2 Q := by
    intro M2 s4 n4 cl2 t hok hZ2 st2 hc2 hs2 kc k3 ht
    refine h_105_243 st2.1 ?_
    obtain ⟨a, b, c, e, f'⟩ := hZ2
    rw [c, am_w_id (by omega) (by omega)]
    have F : nm_Fr rc_cg M0 (am_st M2 30 12 (sz + 1)) := nm_Fr_st a (by decide)
    have gg : ∀ a k, a ≠ 30 → am_gt (am_st M2 30 12 (sz + 1)) a k = am_gt M2 a k := fun a k ha => by rw [nm_gt_st, if_neg (fun q => ha q.1)]
    have g3 : ∀ k, k ≠ 12 → am_gt (am_st M2 30 12 (sz + 1)) 30 k = am_gt M2 30 k := fun k ha => by rw [nm_gt_st, if_neg (fun q => ha q.2)]
    obtain ⟨hL, hP, hS, q3, q8, q10, rest⟩ := st2
    have st3 : rc_st (am_st M2 30 12 (sz + 1)) T o s4 n4 cl2 := ⟨nm_Lay_st hL (by decide +kernel), ⟨(g3 _ (by decide)).trans hP.1, fun k x y => (gg _ _ (by decide)).trans (hP.2 k x y)⟩, ⟨(g3 _ (by decide)).trans hS.1, (g3 _ (by decide)).trans hS.2.1, (g3 _ (by decide)).trans hS.2.2.1, (g3 _ (by decide)).trans hS.2.2.2⟩, (g3 _ (by decide)).trans q3, (g3 _ (by decide)).trans q8, (g3 _ (by decide)).trans q10, rest⟩
    refine hK _ _ _ _ cl2 hok (.inr trivial) F ((g3 _ (by decide)).trans b) (fun k x y => (gg _ _ (by decide)).trans (e k x y)) (fun k x => (gg _ _ (by decide)).trans (f' k x)) st3 (by rw [nm_gt_st, if_pos ⟨rfl, rfl⟩]) (by omega) (by omega) ?_
    have base : rc_cla M2 o cl2 sz (kd, f, g, v, t) := by
      unfold rc_cla
      rw [k3 (5 * sz) (by omega), k3 (5 * sz + 1) (by omega), k3 (5 * sz + 2) (by omega), k3 (5 * sz + 3) (by omega)]
      exact ⟨b0, fun q => rc_blk_m (b1 q) kc hc2, fun q => rc_blk_m (b2 q) kc hc2, b3, ht⟩
    exact rc_cla_m base (fun k _ _ => gg _ _ (by decide)) (fun i _ => gg _ _ (by decide)) (Int.le_refl _)
  have w4 : am_w (5 * sz + 4) = 5 * sz + 4 := am_w_id (by omega) (by omega)
  refine h_105_193 hst.1 ?_
  rw [w4]
  have stA := rc_st33 (i := 5 * sz + 4) (v := -1) hst (by omega) (by omega)
  have ZA := rc_Z33 (i := 5 * sz + 4) (v := -1) hZ z0 (by omega) (by omega)
  refine ⟨by omega, by omega, by omega, rc_is 29 rfl (by decide) (by omega) hT stA ?_⟩
  by_cases e29 : tk_x T s1 = rd_tx 29
  · rw [if_pos e29]
    have adv := tk_advx 29 (by decide) s14 e29
    refine h_105_208 stA.1 ⟨fun h => absurd h (by decide), fun _ => ⟨by omega, rc_step (by omega) hT stA (fun M2 mv2 st2 => ?_)⟩⟩
    have Z2 := rc_Z_m stA.1 ZA mv2 hcl
    have g10 := st2.2.2.2.2.2.1
    refine h_105_215 st2.1 ?_
    rw [w4, g10]
    have stB := rc_st33 (i := 5 * sz + 4) (v := cl1) st2 (by omega) (by omega)
    have ZB := rc_Z33 (i := 5 * sz + 4) (v := cl1) Z2 z0 (by omega) (by omega)
    have k33 : ∀ k, k < 5 * sz + 4 → am_gt (am_st M2 33 (5 * sz + 4) cl1) 33 k = am_gt M1 33 k := fun k hk => (rc_33k (by omega)).trans (((rc_fg_k stA.1 mv2.1).2 k).trans (rc_33k (by omega)))
    have k32 : ∀ k, 0 ≤ k → k < cl1 → am_gt (am_st M2 33 (5 * sz + 4) cl1) 32 k = am_gt M1 32 k := fun k x y => (rc_33c (by decide)).trans ((mv2.2.2 k x y).trans (rc_33c (by decide)))
    refine ⟨by omega, by omega, by omega, rc_tests hT ho 8 (by decide) (d - 1) _ _ _ _ _ (by omega) stB (by omega) (fun p M3 s' n' cl' hp F3 st3 e3 => ?_) (fun f3 s3 n3 M3 cl3 hok mv3 st3 sl3 cb3 => ?_)⟩
    · refine h_105_232 st3.1 ⟨fun h => absurd rfl h, fun _ => hE p M3 s' n' cl' ?_ (nm_Fr_trans ZB.1 (nm_Fr_sub F3 (by decide))) st3 e3⟩
      unfold rd_c4 rd_tst; rw [if_pos e29, hp]
    · have s34 := st3.2.2.2.2.2.2.2.1
      have lt3 := cb3.1
      refine h_105_232 st3.1 ⟨fun _ => ⟨by omega, rc_emit st3 (by omega) (by decide) (by decide) (by decide) (by decide) (fun M5 mv5 st5 e5 => ?_)⟩, fun h => absurd (by decide) h⟩
      have Z5 := rc_Z_m st3.1 (rc_Z_m stB.1 ZB mv3 hcl) mv5 (by omega)
      have kk : ∀ k, am_gt M5 33 k = am_gt (am_st M2 33 (5 * sz + 4) cl1) 33 k := fun k => ((rc_fg_k st3.1 mv5.1).2 k).trans ((rc_fg_k stB.1 mv3.1).2 k)
      refine fin M5 s3 n3 (cl3 + 1) (some f3) (by unfold rd_c4 rd_tst; rw [if_pos e29, hok]) Z5 st5 (by omega) (by omega) (fun k x y => ((mv5.2.2 k x (by omega)).trans (mv3.2.2 k x y)).trans (k32 k x y)) (fun k hk => (kk k).trans (k33 k hk)) (.inr ⟨f3, rfl, ?_, ?_⟩)
      · rw [kk, rc_33e]; exact c0
      · rw [kk, rc_33e]; exact rc_stop c0 (by decide) cb3 mv5.2.2 e5
  · rw [if_neg e29]
    refine h_105_208 stA.1 ⟨fun _ => fin _ s1 n1 cl1 none (by unfold rd_c4 rd_tst; rw [if_neg e29]) ZA stA (Int.le_refl _) (by omega) (fun k _ _ => rc_33c (by decide)) (fun k hk => rc_33k (by omega)) (.inl ⟨rfl, rc_33e⟩), fun h => absurd rfl h⟩
theorem rc_t3 {d : Nat} {T : tk_T} {o s1 n1 cl0 cl1 sz kd : Int} {f g : rd_F} {M0 M1 : am_M} {Q : List am_V → am_M → Prop} (hd : 27 ≤ d) (hT : tk_ok T) (ho : o = 0 ∨ o = 1) (z0 : 0 ≤ sz) (z1 : sz < 12) (hZ : rc_Z M0 M1 cl0 sz) (hst : rc_st M1 T o s1 n1 cl1) (hcl : cl0 ≤ cl1) (hsl : cl1 - s1 ≤ 3 * sz + 2) (b0 : am_gt M1 33 (5 * sz) = kd) (b1 : kd ≠ 3 → rc_blk M1 o (am_gt M1 33 (5 * sz + 1)) cl1 f) (b2 : o ≠ 0 ∧ kd = 2 → rc_blk M1 o (am_gt M1 33 (5 * sz + 2)) cl1 g)
    (hE : ∀ p M' s' n' cl', rd_c3 T o kd f g s1 n1 = .error p → nm_Fr rc_cg M0 M' → rc_st M' T o s' n' cl' → am_gt M' 30 2 = p → Q [(0, 0)] M')
    (hK : ∀ c s4 n4 M' cl', rd_c3 T o kd f g s1 n1 = .ok (c, s4, n4) → nm_Fr rc_cg M0 M' → am_gt M' 30 2 = am_gt M0 30 2 → (∀ k, 0 ≤ k → k < cl0 → am_gt M' 32 k = am_gt M0 32 k) → (∀ k, k < 5 * sz → am_gt M' 33 k = am_gt M0 33 k) → rc_st M' T o s4 n4 cl' → am_gt M' 30 12 = sz + 1 → cl0 ≤ cl' → cl' - s4 ≤ 3 * (sz + 1) → rc_cla M' o cl' sz c → Q [(0, 1)] M') : am_WP d am_c105 133 [(2, 30), (0, kd), (0, 5 * sz)] [] M1 Q := by
  have t4 := hT.2.1
  have s14 := hst.2.2.2.2.2.2.2.1
  have g3 := hst.2.2.2.1
  have he := tk_se s14
  have w3 : am_w (5 * sz + 3) = 5 * sz + 3 := am_w_id (by omega) (by omega)
  have stA := rc_st33 (i := 5 * sz + 3) (v := 1) hst (by omega) (by omega)
  have ZA := rc_Z33 (i := 5 * sz + 3) (v := 1) hZ z0 (by omega) (by omega)
  -- on with any memory that holds what was read
  have go : ∀ (M2 : am_M) (v s3 : Int), rd_tim T o s1 = .ok (v, s3) → rc_Z M0 M2 cl0 sz → rc_st M2 T o s3 n1 cl1 → s1 ≤ s3 → (∀ k, 0 ≤ k → k < cl1 → am_gt M2 32 k = am_gt M1 32 k) → (∀ k, k < 5 * sz + 3 → am_gt M2 33 k = am_gt M1 33 k) → am_gt M2 33 (5 * sz + 3) = v → am_WP d am_c105 193 [(2, 30), (0, kd), (0, 5 * sz)] [] M2 Q := by
    intro M2 v s3 hok Z2 st2 hs kc k3 hv
    have e : rd_c3 T o kd f g s1 n1 = rd_c4 T o kd f g v s3 n1 := by unfold rd_c3; rw [hok]
    rw [e] at hE hK
    refine rc_t4 hd hT ho z0 z1 Z2 st2 hcl (by omega) (by rw [k3 _ (by omega)]; exact b0) (fun q => ?_) (fun q => ?_) hv hE (fun c s4 n4 M' cl' a _ b1 b2 b3 b4 b5 b6 b7 b8 b9 => hK c s4 n4 M' cl' a b1 b2 b3 b4 b5 b6 b7 b8 b9)
    · rw [k3 _ (by omega)]; exact rc_blk_m (b1 q) kc (Int.le_refl _)
    · rw [k3 _ (by omega)]; exact rc_blk_m (b2 q) kc (Int.le_refl _)
  refine h_105_133 hst.1 ?_
  rw [w3, g3]
  refine ⟨by omega, by omega, fun h => ?_, fun h => ⟨by omega, rc_is 28 rfl (by decide) (by omega) hT stA ?_⟩⟩
  · exact go _ 1 s1 (by unfold rd_tim; rw [if_neg (by omega)]) ZA stA (Int.le_refl _) (fun k _ _ => rc_33c (by decide)) (fun k hk => rc_33k (by omega)) rc_33e
  · have ho1 : o ≠ 0 := by omega
    by_cases e28 : tk_x T s1 = rd_tx 28
    · rw [if_pos e28]
      refine h_105_155 stA.1 ⟨fun h => absurd h (by decide), fun _ => ⟨by omega, rc_step (by omega) hT stA (fun M2 mv2 st2 => h_105_162 st2.1 ⟨by omega, ?_⟩)⟩⟩
      have Z2 := rc_Z_m stA.1 ZA mv2 hcl
      have he2 := tk_se he.2
      refine rc_101 st2.1 st2.2.2.1 he.2 (by decide) (by decide) (fun hy => ?_) (fun hn => ?_)
      · have hv := tk_c_v (by decide) hy
        refine h_105_169 st2.1 ⟨fun _ => ?_, fun h => absurd (by decide) h⟩
        rw [w3, st2.2.2.1.2.2.2, hv]
        have stB := rc_st33 (i := 5 * sz + 3) (v := tk_w T (tk_e T s1)) st2 (by omega) (by omega)
        have ZB := rc_Z33 (i := 5 * sz + 3) (v := tk_w T (tk_e T s1)) Z2 z0 (by omega) (by omega)
        refine ⟨by omega, by omega, by omega, rc_step (by omega) hT stB (fun M3 mv3 st3 => ?_)⟩
        refine go M3 (tk_w T (tk_e T s1)) (tk_e T (tk_e T s1)) (by unfold rd_tim; rw [if_pos ⟨ho1, e28⟩, if_pos hy]) (rc_Z_m stB.1 ZB mv3 hcl) st3 (by omega) (fun k x y => (mv3.2.2 k x y).trans ((rc_33c (by decide)).trans ((mv2.2.2 k x y).trans (rc_33c (by decide))))) (fun k hk => ((rc_fg_k stB.1 mv3.1).2 k).trans ((rc_33k (by omega)).trans (((rc_fg_k stA.1 mv2.1).2 k).trans (rc_33k (by omega))))) (((rc_fg_k stB.1 mv3.1).2 _).trans rc_33e)
      · refine h_105_169 st2.1 ⟨fun h => absurd rfl h, fun _ => ⟨by omega, rc_fail st2 (fun M3 F3 st3 e3 => h_105_176 st3.1 ⟨.inl rfl, hE _ M3 _ _ _ ?_ (nm_Fr_trans Z2.1 (nm_Fr_sub F3 (by decide))) st3 e3⟩)⟩⟩
        unfold rd_c3 rd_tim; rw [if_pos ⟨ho1, e28⟩, if_neg hn]
    · rw [if_neg e28]
      exact h_105_155 stA.1 ⟨fun _ => go _ 1 s1 (by unfold rd_tim; rw [if_neg (fun q => e28 q.2)]) ZA stA (Int.le_refl _) (fun k _ _ => rc_33c (by decide)) (fun k hk => rc_33k (by omega)) rc_33e, fun h => absurd rfl h⟩
theorem rc_t2 {d : Nat} {T : tk_T} {o s1 n1 cl0 cl1 sz kd : Int} {f : rd_F} {M0 M1 : am_M} {Q : List am_V → am_M → Prop} (hd : 27 ≤ d) (hT : tk_ok T) (ho : o = 0 ∨ o = 1) (z0 : 0 ≤ sz) (z1 : sz < 12) (hZ : rc_Z M0 M1 cl0 sz) (hst : rc_st M1 T o s1 n1 cl1) (hcl : cl0 ≤ cl1) (hsl : cl1 - s1 ≤ 3 * sz + 1) (b0 : am_gt M1 33 (5 * sz) = kd) (b1 : kd ≠ 3 → rc_blk M1 o (am_gt M1 33 (5 * sz + 1)) cl1 f)
    (hE : ∀ p M' s' n' cl', rd_c2 T o kd f s1 n1 = .error p → nm_Fr rc_cg M0 M' → rc_st M' T o s' n' cl' → am_gt M' 30 2 = p → Q [(0, 0)] M')
    (hK : ∀ c s4 n4 M' cl', rd_c2 T o kd f s1 n1 = .ok (c, s4, n4) → nm_Fr rc_cg M0 M' → am_gt M' 30 2 = am_gt M0 30 2 → (∀ k, 0 ≤ k → k < cl0 → am_gt M' 32 k = am_gt M0 32 k) → (∀ k, k < 5 * sz → am_gt M' 33 k = am_gt M0 33 k) → rc_st M' T o s4 n4 cl' → am_gt M' 30 12 = sz + 1 → cl0 ≤ cl' → cl' - s4 ≤ 3 * (sz + 1) → rc_cla M' o cl' sz c → Q [(0, 1)] M') : am_WP d am_c105 75 [(2, 30), (0, kd), (0, 5 * sz)] [] M1 Q := by
  have t4 := hT.2.1
  have s14 := hst.2.2.2.2.2.2.2.1
  have g3 := hst.2.2.2.1
  have g10 := hst.2.2.2.2.2.1
  have c0 := hst.2.2.2.2.2.2.2.2.2.2.1
  have he := tk_se s14
  have w2 : am_w (5 * sz + 2) = 5 * sz + 2 := am_w_id (by omega) (by omega)
  have stA := rc_st33 (i := 5 * sz + 2) (v := cl1) hst (by omega) (by omega)
  have ZA := rc_Z33 (i := 5 * sz + 2) (v := cl1) hZ z0 (by omega) (by omega)
  have go : ∀ (M2 : am_M) (g : rd_F) (s2 n2 cl2 : Int), rd_snd T o kd s1 n1 = .ok (g, s2, n2) → rc_Z M0 M2 cl0 sz → rc_st M2 T o s2 n2 cl2 → cl1 ≤ cl2 → cl2 - s2 ≤ 3 * sz + 2 → (∀ k, 0 ≤ k → k < cl1 → am_gt M2 32 k = am_gt M1 32 k) → (∀ k, k < 5 * sz + 2 → am_gt M2 33 k = am_gt M1 33 k) → (o ≠ 0 ∧ kd = 2 → rc_blk M2 o (am_gt M2 33 (5 * sz + 2)) cl2 g) → am_WP d am_c105 133 [(2, 30), (0, kd), (0, 5 * sz)] [] M2 Q := by
    intro M2 g s2 n2 cl2 hok Z2 st2 hc2 hs kc k3 hv
    have e : rd_c2 T o kd f s1 n1 = rd_c3 T o kd f g s2 n2 := by unfold rd_c2; rw [hok]
    rw [e] at hE hK
    refine rc_t3 hd hT ho z0 z1 Z2 st2 (by omega) hs (by rw [k3 _ (by omega)]; exact b0) (fun q => ?_) hv hE hK
    rw [k3 _ (by omega)]; exact rc_blk_m (b1 q) kc hc2
  refine h_105_75 hst.1 ?_
  rw [w2, g10, g3]
  have plain : ¬ (o ≠ 0 ∧ kd = 2) → am_WP d am_c105 133 [(2, 30), (0, kd), (0, 5 * sz)] [] (am_st M1 33 (5 * sz + 2) cl1) Q := fun h => go _ rd_0 s1 n1 cl1 (by unfold rd_snd; rw [if_neg h]) ZA stA (Int.le_refl _) (by omega) (fun k _ _ => rc_33c (by decide)) (fun k hk => rc_33k (by omega)) (fun q => absurd q h)
  refine ⟨by omega, by omega, fun h => plain (by omega), fun h => ⟨fun h2 => plain (by omega), fun h2 => ⟨by omega, rc_is 27 rfl (by decide) (by omega) hT stA ?_⟩⟩⟩
  have hc : o ≠ 0 ∧ kd = 2 := by omega
  by_cases e27 : tk_x T s1 = rd_tx 27
  · rw [if_pos e27]
    have adv := tk_advx 27 (by decide) s14 e27
    refine h_105_105 stA.1 ⟨fun _ => ⟨by omega, rc_step (by omega) hT stA (fun M2 mv2 st2 => h_105_117 st2.1 ⟨by omega, ?_⟩)⟩, fun h => absurd (by decide) h⟩
    have Z2 := rc_Z_m stA.1 ZA mv2 hcl
    refine rc_sums hT ho 8 (by decide) (d - 1) _ _ _ _ _ (by omega) st2 (by omega) (fun p M3 s' n' cl' hp F3 st3 e3 => ?_) (fun f3 s3 n3 M3 cl3 hok mv3 st3 sl3 cb3 => ?_)
    · refine h_105_122 st3.1 ⟨fun h => absurd rfl h, fun _ => hE p M3 s' n' cl' ?_ (nm_Fr_trans Z2.1 (nm_Fr_sub F3 (by decide))) st3 e3⟩
      unfold rd_c2 rd_snd; rw [if_pos hc, if_pos e27, hp]
    · have s34 := st3.2.2.2.2.2.2.2.1
      have lt3 := cb3.1
      refine h_105_122 st3.1 ⟨fun _ => ⟨by omega, rc_emit st3 (by omega) (by decide) (by decide) (by decide) (by decide) (fun M5 mv5 st5 e5 => ?_)⟩, fun h => absurd (by decide) h⟩
      have kk : ∀ k, am_gt M5 33 k = am_gt (am_st M1 33 (5 * sz + 2) cl1) 33 k := fun k => ((rc_fg_k st3.1 mv5.1).2 k).trans (((rc_fg_k st2.1 mv3.1).2 k).trans ((rc_fg_k stA.1 mv2.1).2 k))
      refine go M5 f3 s3 n3 (cl3 + 1) (by unfold rd_snd; rw [if_pos hc, if_pos e27, hok]) (rc_Z_m st3.1 (rc_Z_m st2.1 Z2 mv3 hcl) mv5 (by omega)) st5 (by omega) (by omega) (fun k x y => ((mv5.2.2 k x (by omega)).trans (mv3.2.2 k x y)).trans ((mv2.2.2 k x y).trans (rc_33c (by decide)))) (fun k hk => (kk k).trans (rc_33k (by omega))) (fun _ => ?_)
      rw [kk, rc_33e]; exact rc_stop c0 (by decide) cb3 mv5.2.2 e5
  · rw [if_neg e27]
    refine h_105_105 stA.1 ⟨fun h => absurd rfl h, fun _ => ⟨by omega, rc_fail stA (fun M3 F3 st3 e3 => h_105_112 st3.1 ⟨.inl rfl, hE _ M3 _ _ _ ?_ (nm_Fr_trans ZA.1 (nm_Fr_sub F3 (by decide))) st3 e3⟩)⟩⟩
    unfold rd_c2 rd_snd; rw [if_pos hc, if_neg e27]
theorem rc_105 {d : Nat} {T : tk_T} {o s n cl sz : Int} {M : am_M} {Q : List am_V → am_M → Prop} (hd : 28 ≤ d) (hT : tk_ok T) (ho : o = 0 ∨ o = 1) (z0 : 0 ≤ sz) (z1 : sz ≤ 12) (hst : rc_st M T o s n cl) (gsz : am_gt M 30 12 = sz) (hsl : cl - s ≤ 3 * sz)
    (hE : ∀ p M' s' n' cl', rd_cls T o s n sz = .error p → nm_Fr rc_cg M M' → rc_st M' T o s' n' cl' → am_gt M' 30 2 = p → Q [(0, 0)] M')
    (hK : ∀ c s4 n4 M' cl', rd_cls T o s n sz = .ok (c, s4, n4) → nm_Fr rc_cg M M' → am_gt M' 30 2 = am_gt M 30 2 → (∀ k, 0 ≤ k → k < cl → am_gt M' 32 k = am_gt M 32 k) → (∀ k, k < 5 * sz → am_gt M' 33 k = am_gt M 33 k) → rc_st M' T o s4 n4 cl' → am_gt M' 30 12 = sz + 1 → cl ≤ cl' → cl' - s4 ≤ 3 * (sz + 1) → rc_cla M' o cl' sz c → Q [(0, 1)] M') : am_CL d 105 [(2, 30)] M Q := by
  have t4 := hT.2.1
  have hst' := hst
  obtain ⟨hL, hP, hS, g3, g8, g10, s0, s14, n0, n5, c0, c4⟩ := hst'
  have he := tk_se s14
  have F0 : nm_Fr rc_cg M M := nm_Fg_refl _ _
  have main : am_WP d am_c105 4 [(2, 30), (9, 0), (9, 0)] [(0, rd_kd o (tk_x T s))] M Q := by
    refine h_105_4 hL ⟨fun h => ⟨by omega, rc_fail hst (fun M3 F3 st3 e3 => h_105_23 st3.1 ⟨.inl rfl, hE _ M3 _ _ _ ?_ (nm_Fr_sub F3 (by decide)) st3 e3⟩)⟩, fun h => ⟨fun h2 => ?_, fun h2 => ⟨by omega, rc_fail hst (fun M3 F3 st3 e3 => h_105_23 st3.1 ⟨.inl rfl, hE _ M3 _ _ _ ?_ (nm_Fr_sub F3 (by decide)) st3 e3⟩)⟩⟩⟩
    · unfold rd_cls; rw [if_pos (.inl h)]
    · rw [gsz] at h2
      have hnc : ¬ (rd_kd o (tk_x T s) = -1 ∨ 12 ≤ sz) := by omega
      obtain ⟨kx, k0, k3⟩ : tk_x T s ≠ [] ∧ 0 ≤ rd_kd o (tk_x T s) ∧ rd_kd o (tk_x T s) ≤ 3 := by
        rcases rd_kd_n o (tk_x T s) with e | e
        · exact absurd e h
        · exact e
      have adv := tk_adv s14 kx
      have eq0 : rd_cls T o s n sz = (match rd_fst T o (rd_kd o (tk_x T s)) (tk_e T s) n with
        | .error p => .error p
        | .ok (f, s1, n1) => rd_c2 T o (rd_kd o (tk_x T s)) f s1 n1) := by unfold rd_cls; rw [if_neg hnc]
      generalize hkd : rd_kd o (tk_x T s) = kd at *
      refine ⟨by omega, rc_step (by omega) hT hst (fun M1 mv1 st1 => h_105_28 st1.1 ?_)⟩
      have Z1 : rc_Z M M1 cl sz := ⟨nm_Fr_sub mv1.1 (by decide), mv1.2.1, ((rc_fg_k hL mv1.1).1).trans gsz, mv1.2.2, fun k _ => (rc_fg_k hL mv1.1).2 k⟩
      have g12 := Z1.2.2.1
      have g10' := st1.2.2.2.2.2.1
      have w5 : am_w (sz * 5) = 5 * sz := by rw [am_w_id (by omega) (by omega)]; omega
      have w1 : am_w (5 * sz + 1) = 5 * sz + 1 := am_w_id (by omega) (by omega)
      rw [g12, w5, w1, g10']
      have stA := rc_st33 (i := 5 * sz + 1) (v := cl) (rc_st33 (i := 5 * sz) (v := kd) st1 (by omega) (by omega)) (by omega) (by omega)
      have ZA := rc_Z33 (i := 5 * sz + 1) (v := cl) (rc_Z33 (i := 5 * sz) (v := kd) Z1 z0 (by omega) (by omega)) z0 (by omega) (by omega)
      have a0 : am_gt (am_st (am_st M1 33 (5 * sz) kd) 33 (5 * sz + 1) cl) 33 (5 * sz) = kd := (rc_33k (by omega)).trans rc_33e
      have a1 : am_gt (am_st (am_st M1 33 (5 * sz) kd) 33 (5 * sz + 1) cl) 33 (5 * sz + 1) = cl := rc_33e
      generalize am_st (am_st M1 33 (5 * sz) kd) 33 (5 * sz + 1) cl = MA at stA ZA a0 a1 ⊢
      refine ⟨by omega, by omega, by omega, by omega, fun hk3 => ⟨by omega, rc_emit stA (by omega) (by decide) (by decide) (by decide) (by decide) (fun M2 mv2 st2 e2 => ?_)⟩, fun hk3 => ⟨by omega, ?_⟩⟩
      · have e : rd_cls T o s n sz = rd_c2 T o kd rd_0 (tk_e T s) n := by rw [eq0]; unfold rd_fst; rw [if_pos hk3]
        rw [e] at hE hK
        exact rc_t2 (by omega) hT ho z0 (by omega) (rc_Z_m stA.1 ZA mv2 (Int.le_refl _)) st2 (by omega) (by omega) (((rc_fg_k stA.1 mv2.1).2 _).trans a0) (fun q => absurd hk3 q) hE hK
      · refine rc_sums hT ho 8 (by decide) (d - 1) _ _ _ _ _ (by omega) stA (by omega) (fun p M3 s' n' cl' hp F3 st3 e3 => ?_) (fun f3 s3 n3 M3 cl3 hok mv3 st3 sl3 cb3 => ?_)
        · refine h_105_64 st3.1 ⟨fun h => absurd rfl h, fun _ => hE p M3 s' n' cl' ?_ (nm_Fr_trans ZA.1 (nm_Fr_sub F3 (by decide))) st3 e3⟩
          rw [eq0]; unfold rd_fst; rw [if_neg hk3, hp]
        · have s34 := st3.2.2.2.2.2.2.2.1
          have lt3 := cb3.1
          have e : rd_cls T o s n sz = rd_c2 T o kd f3 s3 n3 := by rw [eq0]; unfold rd_fst; rw [if_neg hk3, hok]
          rw [e] at hE hK
          refine h_105_64 st3.1 ⟨fun _ => ⟨by omega, rc_emit st3 (by omega) (by decide) (by decide) (by decide) (by decide) (fun M5 mv5 st5 e5 => ?_)⟩, fun h => absurd (by decide) h⟩
          have kk : ∀ k, am_gt M5 33 k = am_gt MA 33 k := fun k => ((rc_fg_k st3.1 mv5.1).2 k).trans ((rc_fg_k stA.1 mv3.1).2 k)
          refine rc_t2 (by omega) hT ho z0 (by omega) (rc_Z_m st3.1 (rc_Z_m stA.1 ZA mv3 (Int.le_refl _)) mv5 (by omega)) st5 (by omega) (by omega) ((kk _).trans a0) (fun q => ?_) hE hK
          rw [kk, a1]; exact rc_stop c0 (by decide) cb3 mv5.2.2 e5
    · rw [gsz] at h2
      unfold rd_cls; rw [if_pos (.inr (by omega))]
  refine h_105_0 hL ⟨by omega, ?_⟩
  by_cases h0 : o = 0
  · refine rc_104l (by omega) hL hT hP hS s0 s14 (by rw [g3]; omega) ?_
    rw [show rd_kd o (tk_x T s) = rd_lk (tk_x T s) by unfold rd_kd; rw [if_pos h0]] at main
    exact main
  · refine rc_104o (by omega) hL hT hP hS s0 s14 (by rw [g3]; omega) ?_
    rw [show rd_kd o (tk_x T s) = rd_okk (tk_x T s) by unfold rd_kd; rw [if_neg h0]] at main
    exact main
