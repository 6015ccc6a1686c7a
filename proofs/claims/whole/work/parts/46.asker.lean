/-! THE ASKER OF THE CLASS -/
theorem nm_s0 {M : am_M} {S : Int → Int} (h : nm_CS M 1 S) : am_gt M 1 0 = S 0 := h.1
theorem nm_s1 {M : am_M} {S : Int → Int} (h : nm_CS M 1 S) : am_gt M 1 6 = S 1 := h.2.1
theorem nm_s2 {M : am_M} {S : Int → Int} (h : nm_CS M 1 S) : am_gt M 1 13 = S 2 := h.2.2.1
theorem nm_s3 {M : am_M} {S : Int → Int} (h : nm_CS M 1 S) : am_gt M 1 15 = S 3 := h.2.2.2.1
theorem nm_s5 {M : am_M} {S : Int → Int} (h : nm_CS M 1 S) : am_gt M 1 10 = S 5 := h.2.2.2.2.1
theorem nm_s6 {M : am_M} {S : Int → Int} (h : nm_CS M 1 S) : am_gt M 1 11 = S 6 := h.2.2.2.2.2.1
theorem nm_s7 {M : am_M} {S : Int → Int} (h : nm_CS M 1 S) : am_gt M 1 12 = S 7 := h.2.2.2.2.2.2.1
theorem nm_slong {M : am_M} {S : Int → Int} (h : nm_CS M 1 S) {m : Int} (a : 0 ≤ m) (b : m < 6) : am_gt M 2 m = S (29 + m) := h.2.2.2.2.2.2.2.1 m a b
theorem nm_ssaw {M : am_M} {S : Int → Int} (h : nm_CS M 1 S) {m : Int} (a : 0 ≤ m) (b : m < 30) : am_gt M 3 m = S (35 + m) := h.2.2.2.2.2.2.2.2.1 m a b
theorem nm_sbend {M : am_M} {S : Int → Int} (h : nm_CS M 1 S) {m : Int} (a : 0 ≤ m) (b : m < 6) : am_gt M 4 m = S (65 + m) := h.2.2.2.2.2.2.2.2.2.1 m a b
theorem nm_scrack {M : am_M} {S : Int → Int} (h : nm_CS M 1 S) {m : Int} (a : 0 ≤ m) (b : m < 6) : am_gt M 5 m = S (71 + m) := h.2.2.2.2.2.2.2.2.2.2.1 m a b
theorem nm_sclock {M : am_M} {S : Int → Int} (h : nm_CS M 1 S) {m : Int} (a : 0 ≤ m) (b : m < 8) : am_gt M 6 m = S (77 + m) := h.2.2.2.2.2.2.2.2.2.2.2.1 m a b
theorem nm_shh {M : am_M} {S : Int → Int} (h : nm_CS M 1 S) {m : Int} (a : 0 ≤ m) (b : m < 8) : am_gt M 7 m = S (85 + 3 * m) := h.2.2.2.2.2.2.2.2.2.2.2.2.1 m a b
theorem nm_shp {M : am_M} {S : Int → Int} (h : nm_CS M 1 S) {m : Int} (a : 0 ≤ m) (b : m < 8) : am_gt M 8 m = S (86 + 3 * m) := h.2.2.2.2.2.2.2.2.2.2.2.2.2.1 m a b
theorem nm_shm {M : am_M} {S : Int → Int} (h : nm_CS M 1 S) {m : Int} (a : 0 ≤ m) (b : m < 8) : am_gt M 9 m = S (87 + 3 * m) := h.2.2.2.2.2.2.2.2.2.2.2.2.2.2 m a b
abbrev nm_wg : nm_Rg := [(18, 0, 18)]
abbrev nm_Ag : nm_Rg := [(18, 0, 18), (19, 0, 64)]
theorem nm_Fst {f : nm_Rg} {M M' : am_M} {a i v lo hi : Int} (h : nm_Fr f M M') (hm : (a, lo, hi) ∈ f) (h1 : lo ≤ i) (h2 : i < hi) : nm_Fr f M (am_st M' a i v) := nm_Fr_st h (nm_in_c hm h1 h2)
theorem nm_wgW {w : Int} (hw : w ∈ nm_WL) : nm_dj nm_wg (nm_Wg w) = true := nm_Wall (P := fun w => nm_dj nm_wg (nm_Wg w)) (by decide +kernel) hw
theorem nm_AgW {w : Int} (hw : w ∈ nm_WL) : nm_dj nm_Ag (nm_Wg w) = true := nm_Wall (P := fun w => nm_dj nm_Ag (nm_Wg w)) (by decide +kernel) hw
theorem nm_WS1 {w : Int} (hw : w ∈ nm_WL) : nm_dj (nm_Wg w) (nm_Sg 1) = true := nm_Wall (P := fun w => nm_dj (nm_Wg w) (nm_Sg 1)) (by decide +kernel) hw
theorem nmc_66 {d : Nat} {w m p h q : Int} {S : Int → Int} {W : nm_W} {M : am_M} {Q : List am_V → am_M → Prop} (hL : nm_Lay M) (hw : w ∈ nm_WL) (hS : nm_CS M 1 S) (hW : nm_CW M w W) (hm6 : m < 6) (hQ : ∀ M', nm_Fr nm_wg M M' → (∀ k, 0 ≤ k → k < 8 → am_gt M' 18 k = nm_env S W m p h q k) → Q [] M') : am_CL d 66 [(2, 17), (2, w), (0, m), (0, p), (0, h), (0, q)] M Q := by
  have z : ((18, 0, 18) : Int × Int × Int) ∈ nm_wg := List.mem_singleton.mpr rfl
  have lay : ∀ {M'}, nm_Fr nm_wg M M' → nm_Lay M' := fun F => nm_Lay_fr hL F (by decide +kernel)
  have F1 := nm_Fst (v := m) (i := 0) (nm_Fg_refl _ M) z (by decide) (by decide)
  have F2 := nm_Fst (v := p) (i := 1) F1 z (by decide) (by decide)
  have F3 := nm_Fst (v := h) (i := 2) F2 z (by decide) (by decide)
  have F4 := nm_Fst (v := q) (i := 3) F3 z (by decide) (by decide)
  refine h_66_0 hL hw (h_66_7 (lay F1) hw (h_66_14 (lay F2) hw (h_66_22 (lay F3) hw ?_)))
  have s6 := nm_s6 hS
  by_cases hm : 0 ≤ m
  · have b4 := nm_sbend hS hm hm6
    have F5 := nm_Fst (v := S (65 + m)) (i := 4) F4 z (by decide) (by decide)
    have F6 := nm_Fst (v := W.2.2.1 m) (i := 5) F5 z (by decide) (by decide)
    refine h_66_30 (lay F4) hw ⟨fun _ => ⟨hm, hm6, ?_⟩, fun h => absurd hm h⟩
    rw [nm_gt_frn F4 hL (by decide) (by decide), b4]
    refine h_66_53 (lay F5) hw ⟨fun _ => ⟨hm, hm6, ?_⟩, fun h => absurd hm h⟩
    have b5 : am_gt M (w + 2) m = W.2.2.1 m := hW.2.2.2.2.1 m hm hm6
    rw [nm_gt_frd F5 hL (by have := nm_Wb hw; omega) (nm_wgW hw) (nm_g2 hm hm6), b5]
    refine h_66_73 (lay F6) hw ?_
    have F7 := nm_Fst (v := W.1) (i := 6) F6 z (by decide) (by decide)
    have F8 := nm_Fst (v := S 6) (i := 7) F7 z (by decide) (by decide)
    rw [nm_gt_frd F6 hL (by have := nm_Wb hw; omega) (nm_wgW hw) (nm_g0 (by decide) (by decide)), hW.1, nm_gt_frn F6 hL (by decide) (by decide), s6]
    refine hQ _ F8 (fun k k0 k8 => ?_)
    have : k = 0 ∨ k = 1 ∨ k = 2 ∨ k = 3 ∨ k = 4 ∨ k = 5 ∨ k = 6 ∨ k = 7 := by omega
    have hm' : ¬ m < 0 := by omega
    rcases this with rfl | rfl | rfl | rfl | rfl | rfl | rfl | rfl <;> simp only [nm_gt_st, nm_env, Int.reduceEq, and_true, and_false, if_true, if_false, hm']
  · have F5 := nm_Fst (v := -1) (i := 4) F4 z (by decide) (by decide)
    have F6 := nm_Fst (v := -1) (i := 5) F5 z (by decide) (by decide)
    refine h_66_30 (lay F4) hw ⟨fun h => absurd h hm, fun _ => ?_⟩
    refine h_66_53 (lay F5) hw ⟨fun h => absurd h hm, fun _ => ?_⟩
    refine h_66_73 (lay F6) hw ?_
    have F7 := nm_Fst (v := W.1) (i := 6) F6 z (by decide) (by decide)
    have F8 := nm_Fst (v := S 6) (i := 7) F7 z (by decide) (by decide)
    rw [nm_gt_frd F6 hL (by have := nm_Wb hw; omega) (nm_wgW hw) (nm_g0 (by decide) (by decide)), hW.1, nm_gt_frn F6 hL (by decide) (by decide), s6]
    refine hQ _ F8 (fun k k0 k8 => ?_)
    have : k = 0 ∨ k = 1 ∨ k = 2 ∨ k = 3 ∨ k = 4 ∨ k = 5 ∨ k = 6 ∨ k = 7 := by omega
    have hm' : m < 0 := by omega
    rcases this with rfl | rfl | rfl | rfl | rfl | rfl | rfl | rfl <;> simp only [nm_gt_st, nm_env, Int.reduceEq, and_true, and_false, if_true, if_false, hm']
/-- code with its stop in a row of memory -/
def nm_Blk (M : am_M) (ca i N : Int) (f : (Int → Int) → Option Int) : Prop := ∃ (c : Int → Int) (j ht : Int), nm_CB N c i j ht f ∧ ht ≤ 64 ∧ c j = 0 ∧ 0 ≤ i ∧ j + 1 ≤ am_ln M ca ∧ ∀ k, i ≤ k → k < j + 1 → am_gt M ca k = c k
/-- what a clause tells -/
def nm_clf (kind : Int) (g f : (Int → Int) → Option Int) : (Int → Int) → Option Int := fun e => if g e = some 1 then (if kind = 3 then some 0 else f e) else none
def nm_row (M : am_M) (a : Int) : Prop := 247 ≤ a ∧ a < M.1 ∧ am_kd M a = 100 ∧ am_ln M a ≤ 60000
/-- a Text of the class that is the law T -/
def nm_CT (M : am_M) (t : Int) (T : nm_T) : Prop := 247 ≤ t ∧ t < M.1 ∧ am_kd M t = 5 ∧ am_gt M t 0 = (T.length : Int) ∧ T.length ≤ 12 ∧ nm_row M (am_gt M t 1) ∧ nm_row M (am_gt M t 2) ∧ 5 * (T.length : Int) ≤ am_ln M (am_gt M t 2) ∧
  ∀ k : Nat, k < T.length → ∃ f g, T.getD k (0, fun _ => none) = (am_gt M (am_gt M t 2) (5 * (k : Int)), nm_clf (am_gt M (am_gt M t 2) (5 * (k : Int))) g f) ∧
    ((am_gt M (am_gt M t 2) (5 * (k : Int) + 4) = -1 ∧ g = fun _ => some 1) ∨ (0 ≤ am_gt M (am_gt M t 2) (5 * (k : Int) + 4) ∧ nm_Blk M (am_gt M t 1) (am_gt M (am_gt M t 2) (5 * (k : Int) + 4)) 8 g)) ∧
    (am_gt M (am_gt M t 2) (5 * (k : Int)) ≠ 3 → nm_Blk M (am_gt M t 1) (am_gt M (am_gt M t 2) (5 * (k : Int) + 1)) 8 f)
/-- no law, or one -/
def nm_tx (M : am_M) (t : Int) (T : nm_T) : Prop := (t = -1 ∧ T = []) ∨ (t ≠ -1 ∧ nm_CT M t T)
def nm_CX (M : am_M) (b : Int) (S : Int → Int) (D : Int → nm_T) : Prop := ∀ k, 0 ≤ k → k < S 2 → nm_CT M (am_gt M (b + 9) k) (D k)
/-- a frame of cells below 247 alone -/
def nm_lo (f : nm_Rg) : Bool := f.all (fun q => decide (q.1 < 247))
theorem nm_lo_in {f : nm_Rg} (h : nm_lo f = true) {a i : Int} (ha : 247 ≤ a) : nm_in f a i = false := by
  rw [Bool.eq_false_iff]
  intro hi
  obtain ⟨q, hq, h1, -⟩ := nm_in_iff.mp hi
  have := of_decide_eq_true (List.all_eq_true.mp h q hq)
  omega
theorem nm_lo_app {f g : nm_Rg} (h : nm_lo f = true) (h' : nm_lo g = true) : nm_lo (f ++ g) = true := by
  unfold nm_lo at *; rw [List.all_append, h, h']; rfl
theorem nm_loW {w : Int} (hw : w ∈ nm_WL) : nm_lo (nm_Wg w) = true := nm_Wall (P := fun w => nm_lo (nm_Wg w)) (by decide +kernel) hw
theorem nm_CT_fr {n s : Int} {f : nm_Rg} {M M' : am_M} {t : Int} {T : nm_T} (h : nm_CT M t T) (hF : nm_Fg n s f M M') (hf : nm_lo f = true) : nm_CT M' t T := by
  obtain ⟨h1, h2, h3, h4, h5, ⟨r1, r2, r3, r4⟩, ⟨c1, c2, c3, c4⟩, h8, h9⟩ := h
  have kp : ∀ a i, 247 ≤ a → a < M.1 → am_gt M' a i = am_gt M a i := fun a i x y => nm_gt_fr hF y (nm_lo_in hf x)
  have ty : ∀ a, a < M.1 → M'.2.2.1 a = M.2.2.1 a := hF.2.2.2.1
  have kd : ∀ a, a < M.1 → am_kd M' a = am_kd M a := fun a x => congrArg Prod.fst (ty a x)
  have ln : ∀ a, a < M.1 → am_ln M' a = am_ln M a := fun a x => congrArg Prod.snd (ty a x)
  have hm := hF.1
  have e1 : am_gt M' t 1 = am_gt M t 1 := kp t 1 h1 h2
  have e2 : am_gt M' t 2 = am_gt M t 2 := kp t 2 h1 h2
  have blk : ∀ i g, nm_Blk M (am_gt M t 1) i 8 g → nm_Blk M' (am_gt M t 1) i 8 g := by
    rintro i g ⟨c, j, ht, b1, b2, b3, b4, b5, b6⟩
    exact ⟨c, j, ht, b1, b2, b3, b4, by rw [ln _ r2]; exact b5, fun k x y => by rw [kp _ _ r1 r2]; exact b6 k x y⟩
  refine ⟨h1, by omega, by rw [kd t h2]; exact h3, by rw [kp t 0 h1 h2]; exact h4, h5, ?_, ?_, ?_, ?_⟩
  · rw [e1]; exact ⟨r1, by omega, by rw [kd _ r2]; exact r3, by rw [ln _ r2]; exact r4⟩
  · rw [e2]; exact ⟨c1, by omega, by rw [kd _ c2]; exact c3, by rw [ln _ c2]; exact c4⟩
  · rw [e2, ln _ c2]; exact h8
  · intro k hk
    obtain ⟨f, g, q1, q2, q3⟩ := h9 k hk
    refine ⟨f, g, ?_, ?_, ?_⟩
    · rw [e2, kp _ _ c1 c2]; exact q1
    · rw [e2, e1, kp _ _ c1 c2]
      rcases q2 with q2 | ⟨q2, q4⟩
      · exact .inl q2
      · exact .inr ⟨q2, blk _ _ q4⟩
    · rw [e2, e1, kp _ _ c1 c2, kp _ _ c1 c2]
      intro hne
      exact blk _ _ (q3 hne)
theorem nm_tx_fr {n s : Int} {f : nm_Rg} {M M' : am_M} {t : Int} {T : nm_T} (h : nm_tx M t T) (hF : nm_Fg n s f M M') (hf : nm_lo f = true) : nm_tx M' t T := by
  rcases h with h | ⟨h1, h2⟩
  · exact .inl h
  · exact .inr ⟨h1, nm_CT_fr h2 hF hf⟩
theorem nm_CX_fr {n s : Int} {f : nm_Rg} {M M' : am_M} {b : Int} {S : Int → Int} {D : Int → nm_T} (h : nm_CX M b S D) (hb : b + 9 < 247) (hL : nm_Lay M) (hF : nm_Fg n s f M M') (hf : nm_lo f = true) (hn : nm_no f (b + 9) = true) : nm_CX M' b S D := by
  intro k k0 k1
  rw [nm_gt_frn hF hL hb hn]
  exact nm_CT_fr (h k k0 k1) hF hf
theorem nmc_125 {d : Nat} {t k : Int} {M : am_M} {Q : List am_V → am_M → Prop} (h1 : am_kd M t = 5) (h2 : am_kd M (am_gt M t 2) = 100) (hk : 0 ≤ k) (h3 : 5 * k + 4 < am_ln M (am_gt M t 2)) (h4 : am_ln M (am_gt M t 2) ≤ 60000) (hQ : Q [(0, am_gt M (am_gt M t 2) (5 * k))] M) : am_CL d 125 [(2, t), (0, k)] M Q := by
  have w : am_w (k * 5) = 5 * k := by rw [am_w_id (by omega) (by omega)]; omega
  exact (show am_WP d am_c125 0 [(2, t), (0, k)] [] M Q from g_125_0 (by rw [w]; exact ⟨h1, h2, by omega, by omega, hQ⟩))
theorem nmc_126 {d : Nat} {t k : Int} {M : am_M} {Q : List am_V → am_M → Prop} (h1 : am_kd M t = 5) (h2 : am_kd M (am_gt M t 2) = 100) (hk : 0 ≤ k) (h3 : 5 * k + 4 < am_ln M (am_gt M t 2)) (h4 : am_ln M (am_gt M t 2) ≤ 60000) (hQ : Q [(0, am_gt M (am_gt M t 2) (5 * k + 1))] M) : am_CL d 126 [(2, t), (0, k)] M Q := by
  have w : am_w (am_w (k * 5) + 1) = 5 * k + 1 := by rw [am_w_id (x := k * 5) (by omega) (by omega), am_w_id (by omega) (by omega)]; omega
  exact (show am_WP d am_c126 0 [(2, t), (0, k)] [] M Q from g_126_0 (by rw [w]; exact ⟨h1, h2, by omega, by omega, hQ⟩))
theorem nmc_127 {d : Nat} {t k : Int} {M : am_M} {Q : List am_V → am_M → Prop} (h1 : am_kd M t = 5) (h2 : am_kd M (am_gt M t 2) = 100) (hk : 0 ≤ k) (h3 : 5 * k + 4 < am_ln M (am_gt M t 2)) (h4 : am_ln M (am_gt M t 2) ≤ 60000) (hQ : Q [(0, am_gt M (am_gt M t 2) (5 * k + 2))] M) : am_CL d 127 [(2, t), (0, k)] M Q := by
  have w : am_w (am_w (k * 5) + 2) = 5 * k + 2 := by rw [am_w_id (x := k * 5) (by omega) (by omega), am_w_id (by omega) (by omega)]; omega
  exact (show am_WP d am_c127 0 [(2, t), (0, k)] [] M Q from g_127_0 (by rw [w]; exact ⟨h1, h2, by omega, by omega, hQ⟩))
theorem nmc_128 {d : Nat} {t k : Int} {M : am_M} {Q : List am_V → am_M → Prop} (h1 : am_kd M t = 5) (h2 : am_kd M (am_gt M t 2) = 100) (hk : 0 ≤ k) (h3 : 5 * k + 4 < am_ln M (am_gt M t 2)) (h4 : am_ln M (am_gt M t 2) ≤ 60000) (hQ : Q [(0, am_gt M (am_gt M t 2) (5 * k + 3))] M) : am_CL d 128 [(2, t), (0, k)] M Q := by
  have w : am_w (am_w (k * 5) + 3) = 5 * k + 3 := by rw [am_w_id (x := k * 5) (by omega) (by omega), am_w_id (by omega) (by omega)]; omega
  exact (show am_WP d am_c128 0 [(2, t), (0, k)] [] M Q from g_128_0 (by rw [w]; exact ⟨h1, h2, by omega, by omega, hQ⟩))
theorem nmc_129 {d : Nat} {t k : Int} {M : am_M} {Q : List am_V → am_M → Prop} (h1 : am_kd M t = 5) (h2 : am_kd M (am_gt M t 2) = 100) (hk : 0 ≤ k) (h3 : 5 * k + 4 < am_ln M (am_gt M t 2)) (h4 : am_ln M (am_gt M t 2) ≤ 60000) (hQ : Q [(0, am_gt M (am_gt M t 2) (5 * k + 4))] M) : am_CL d 129 [(2, t), (0, k)] M Q := by
  have w : am_w (am_w (k * 5) + 4) = 5 * k + 4 := by rw [am_w_id (x := k * 5) (by omega) (by omega), am_w_id (by omega) (by omega)]; omega
  exact (show am_WP d am_c129 0 [(2, t), (0, k)] [] M Q from g_129_0 (by rw [w]; exact ⟨h1, h2, by omega, by omega, hQ⟩))
theorem nm_told_app (l r : nm_T) (k : Int) (e : Int → Int) : nm_told (l ++ r) k e = match nm_told r k e with
    | some v => some v
    | none => nm_told l k e := by
  induction l with
  | nil => cases h : nm_told r k e <;> simp only [List.nil_append, h, nm_told]
  | cons c cs ih =>
    show (match nm_told (cs ++ r) k e with | some v => some v | none => if c.1 = k then c.2 e else none) = _
    rw [ih]
    cases nm_told r k e with
    | some v => rfl
    | none => rfl
theorem nmc_68 {d : Nat} {t kind : Int} {T : nm_T} {e : Int → Int} {M : am_M} {Q : List am_V → am_M → Prop} (hd : 3 ≤ d) (hL : nm_Lay M) (ht : nm_tx M t T) (he : ∀ k, 0 ≤ k → k < 8 → am_gt M 18 k = e k) (hbe : ∀ k, 0 ≤ k → k < 8 → nm_bd (e k)) (hQ : ∀ M', nm_Fr nm_kg M M' → Q [(0, nm_enc (nm_told T kind e))] M') : am_CL d 68 [(2, 17), (2, t), (0, kind)] M Q := by
  refine h_68_0 hL ⟨fun h => ?_, fun h => ?_⟩
  rotate_left
  · rcases ht with ⟨-, rfl⟩ | ⟨h1, -⟩
    · exact hQ M (nm_Fg_refl _ _)
    · exact absurd h h1
  rcases ht with ⟨h1, -⟩ | ⟨-, hT⟩
  · exact absurd h1 h
  have hT0 := hT
  obtain ⟨t1, t2, t3, t4, t5, -⟩ := hT0
  refine ⟨t3, ?_⟩
  rw [t4, am_w_id (by omega) (by omega)]
  have key : ∀ n, n ≤ T.length → ∀ (M1 : am_M) (l4 l5 : am_V), nm_Fr nm_kg M M1 → nm_told (T.drop n) kind e = none → am_WP d am_c68 14 [(2, 17), (2, t), (0, kind), (0, (n : Int) - 1), l4, l5] [] M1 Q := by
    intro n
    induction n with
    | zero =>
      intro _ M1 l4 l5 F hn
      have hL1 : nm_Lay M1 := nm_Lay_fr hL F (by decide +kernel)
      refine h_68_14 hL1 ⟨fun _ => ?_, fun h => absurd h (by omega)⟩
      have := hQ M1 F
      rw [List.drop_zero] at hn
      rw [hn] at this; exact this
    | succ n ih =>
      intro hn M1 l4 l5 F hnone
      have hL1 : nm_Lay M1 := nm_Lay_fr hL F (by decide +kernel)
      have hT1 : nm_CT M1 t T := nm_CT_fr hT F (by decide)
      obtain ⟨q1, q2, q3, q4, q5, ⟨r1, r2, r3, r4⟩, ⟨c1, c2, c3, c4⟩, q8, q9⟩ := hT1
      obtain ⟨f, g, e1, e2, e3⟩ := q9 n (by omega)
      have hx : ((n + 1 : Nat) : Int) - 1 = (n : Int) := by omega
      rw [hx]
      have hdrop : T.drop n = T.getD n (0, fun _ => none) :: T.drop (n + 1) := by
        rw [List.getD_eq_getElem?_getD, List.getElem?_eq_getElem (by omega)]
        exact List.drop_eq_getElem_cons (by omega)
      have hstep : nm_told (T.drop n) kind e = if am_gt M1 (am_gt M1 t 2) (5 * (n : Int)) = kind then nm_clf (am_gt M1 (am_gt M1 t 2) (5 * (n : Int))) g f e else none := by
        rw [hdrop, e1]
        show (match nm_told (T.drop (n + 1)) kind e with | some v => some v | none => _) = _
        rw [hnone]
      have hwhole : ∀ v, nm_told (T.drop n) kind e = some v → nm_told T kind e = some v := by
        intro v hv
        have := nm_told_app (T.take n) (T.drop n) kind e
        rw [List.take_append_drop, hv] at this
        exact this
      have wd : am_w ((n : Int) + -1) = (n : Int) - 1 := by rw [am_w_id (by omega) (by omega)]; omega
      have hold : ∀ (M2 : am_M), nm_Fr nm_kg M M2 → ∀ i c j, 0 ≤ i → j + 1 ≤ am_ln M1 (am_gt M1 t 1) → (∀ k, i ≤ k → k < j + 1 → am_gt M1 (am_gt M1 t 1) k = c k) → nm_Fr nm_kg M1 M2 → nm_hold 8 c i (j + 1) (am_gt M1 t 1) e M2 := by
        intro M2 F2 i c j i0 hj hc F12
        refine nm_hold_fr ⟨hL1, r3, r2, by omega, i0, hj, r4, hc, fun k x y => ?_, by decide, hbe⟩ F12
        rw [nm_gt_frn F hL (by decide) (by decide)]; exact he k x y
      -- the sum, once the test holds
      have sum76 : ∀ (M2 : am_M) (l5 : am_V) (x4 : Int), nm_Fr nm_kg M M2 → nm_Fr nm_kg M1 M2 → am_gt M1 (am_gt M1 t 2) (5 * (n : Int)) = kind → g e = some 1 → ((kind ≠ 3 → am_CL (d - 1) 126 [(2, t), (0, (n : Int))] M2 (fun r M' => am_WP d am_c68 73 [(2, 17), (2, t), (0, kind), (0, (n : Int)), (0, x4), l5] (r ++ [(2, am_gt M2 t 1), (2, 17)]) M' Q)) ∧ (¬ (kind ≠ 3) → am_WP d am_c68 76 [(2, 17), (2, t), (0, kind), (0, (n : Int)), (0, x4), l5] [(0, 0)] M2 Q)) := by
        intro M2 l5 x4 F2 F12 hk hg
        have hL2 : nm_Lay M2 := nm_Lay_fr hL F2 (by decide +kernel)
        obtain ⟨p1, p2, p3, p4, p5, ⟨s1, s2, s3, s4⟩, ⟨b1, b2, b3, b4⟩, p8, p9⟩ := nm_CT_fr hT F2 (by decide)
        have g1 : am_gt M2 t 1 = am_gt M1 t 1 := nm_gt_fr F12 q2 (nm_lo_in (by decide) q1)
        have g2 : am_gt M2 t 2 = am_gt M1 t 2 := nm_gt_fr F12 q2 (nm_lo_in (by decide) q1)
        have g3 : ∀ i, am_gt M2 (am_gt M1 t 2) i = am_gt M1 (am_gt M1 t 2) i := fun i => nm_gt_fr F12 c2 (nm_lo_in (by decide) c1)
        refine ⟨fun h3 => ?_, fun h3 => ?_⟩
        · refine nmc_126 p3 b3 (by omega) (by omega) b4 ?_
          refine h_68_73 hL2 ⟨by omega, ?_⟩
          rw [g1, g2, g3]
          obtain ⟨c, j, hht, k1, k2, k3, k4, k5, k6⟩ := e3 (by rw [hk]; exact h3)
          refine nmc_69 (by omega) k1 k2 k3 (hold M2 F2 _ c j k4 k5 k6 F12) (fun M3 F3 => ?_)
          have F03 := nm_Fr_trans F2 F3
          refine h_68_76 (nm_Lay_fr hL F03 (by decide +kernel)) ⟨fun hz => ?_, fun hz => ?_⟩
          · rw [wd]
            refine ih (by omega) M3 _ _ F03 ?_
            rw [hstep, if_pos hk]
            unfold nm_clf
            rw [hg, if_pos rfl, hk, if_neg h3]
            cases hfe : f e with
            | none => rfl
            | some v =>
              rw [hfe] at hz
              have := k1.2.2.1 e hbe v hfe
              have h1 := this.1
              simp only [nm_enc] at hz
              omega
          · have hfv : ∃ v, f e = some v := by
              cases hfe : f e with
              | none => rw [hfe] at hz; exact absurd rfl hz
              | some v => exact ⟨v, rfl⟩
            obtain ⟨v, hfe⟩ := hfv
            have := hQ M3 F03
            rw [hwhole v (by rw [hstep, if_pos hk]; unfold nm_clf; rw [hg, if_pos rfl, hk, if_neg h3, hfe])] at this
            rw [hfe]; exact this
        · refine h_68_76 hL2 ⟨fun hz => absurd hz (by decide), fun _ => ?_⟩
          have := hQ M2 F2
          rw [hwhole 0 (by rw [hstep, if_pos hk]; unfold nm_clf; rw [hg, if_pos rfl, hk, if_pos (by omega)])] at this
          exact this
      refine h_68_14 hL1 ⟨fun h => absurd h (by omega), fun _ => ⟨q3, by omega, nmc_129 q3 c3 (by omega) (by omega) c4 ?_⟩⟩
      refine h_68_23 hL1 ⟨q3, by omega, nmc_125 q3 c3 (by omega) (by omega) c4 ?_⟩
      refine h_68_30 hL1 ⟨fun hk => ?_, fun hk => ⟨fun htest => ?_, fun htest => ⟨q3, by omega, ?_⟩⟩⟩
      · rw [wd]
        exact ih (by omega) M1 _ _ F (by rw [hstep, if_neg hk])
      · have hk' : am_gt M1 (am_gt M1 t 2) (5 * (n : Int)) = kind := by omega
        rcases e2 with ⟨-, hg⟩ | ⟨h0, -⟩
        · have := sum76 M1 l5 (am_gt M1 (am_gt M1 t 2) (5 * (n : Int) + 4)) F (nm_Fg_refl _ _) hk' (by rw [hg])
          exact ⟨fun h3 => ⟨q3, by omega, this.1 h3⟩, this.2⟩
        · omega
      · have hk' : am_gt M1 (am_gt M1 t 2) (5 * (n : Int)) = kind := by omega
        rcases e2 with ⟨h0, -⟩ | ⟨h0, c, j, hht, k1, k2, k3, k4, k5, k6⟩
        · exact absurd h0 htest
        refine nmc_69 (by omega) k1 k2 k3 (hold M1 F _ c j k4 k5 k6 (nm_Fg_refl _ _)) (fun M2 F2 => ?_)
        have F02 := nm_Fr_trans F F2
        have hL2 : nm_Lay M2 := nm_Lay_fr hL F02 (by decide +kernel)
        refine h_68_50 hL2 ⟨fun hz => ?_, fun hz => ?_⟩
        · rw [wd]
          refine ih (by omega) M2 _ _ F02 ?_
          rw [hstep, if_pos hk']
          unfold nm_clf
          rw [if_neg]
          intro hg
          rw [hg] at hz
          exact hz rfl
        · have hg : g e = some 1 := by
            cases hge : g e with
            | none => rw [hge] at hz; simp only [nm_enc] at hz; omega
            | some v => rw [hge] at hz; simp only [nm_enc] at hz; congr 1; omega
          have p3 : am_kd M2 t = 5 := (nm_CT_fr hT F02 (by decide)).2.2.1
          have := sum76 M2 l5 (am_gt M1 (am_gt M1 t 2) (5 * (n : Int) + 4)) F02 F2 hk' hg
          exact ⟨fun h3 => ⟨p3, by omega, this.1 h3⟩, this.2⟩
  exact key T.length (Nat.le_refl _) M _ _ (nm_Fg_refl _ _) (by rw [List.drop_length]; rfl)
theorem nm_told_mem {T : nm_T} {kind : Int} {e : Int → Int} {v : Int} (h : nm_told T kind e = some v) : ∃ k : Nat, k < T.length ∧ (T.getD k (0, fun _ => none)).2 e = some v := by
  induction T with
  | nil => cases h
  | cons c cs ih =>
    have h' : (match nm_told cs kind e with | some v => some v | none => if c.1 = kind then c.2 e else none) = some v := h
    cases hc : nm_told cs kind e with
    | some u =>
      rw [hc] at h'
      cases h'
      obtain ⟨k, hk, he⟩ := ih hc
      exact ⟨k + 1, by simp only [List.length_cons]; omega, he⟩
    | none =>
      rw [hc] at h'
      simp only at h'
      split at h'
      · exact ⟨0, by simp only [List.length_cons]; omega, h'⟩
      · cases h'
theorem nm_told_bd {M : am_M} {t : Int} {T : nm_T} {kind : Int} {e : Int → Int} {v : Int} (ht : nm_tx M t T) (hbe : ∀ k, 0 ≤ k → k < 8 → nm_bd (e k)) (h : nm_told T kind e = some v) : nm_bd v := by
  rcases ht with ⟨-, rfl⟩ | ⟨-, hT⟩
  · cases h
  obtain ⟨k, hk, he⟩ := nm_told_mem h
  obtain ⟨f, g, e1, e2, e3⟩ := hT.2.2.2.2.2.2.2.2 k hk
  rw [e1] at he
  simp only [nm_clf] at he
  split at he
  · split at he
    · cases he; exact ⟨by decide, by decide⟩
    · rename_i hne
      obtain ⟨c, j, hht, k1, -⟩ := e3 hne
      exact k1.2.2.1 e hbe v he
  · cases he
