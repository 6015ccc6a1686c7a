/-! THE REFERENCE'S PICTURE OF THE STATE -/
/-- a memory that holds a row where the reference has its own -/
def nm_mr (r : Int → Int) : am_M := (0, 0, fun _ => (0, 0), fun _ i => r i)
theorem nm_mr_gt (r : Int → Int) (a i : Int) : am_gt (nm_mr r) a i = r i := rfl
theorem nm_MT_kp2 {M M' : am_M} {a : Int} {T : nm_T} (h : nm_MT M a T) (ha : 110 ≤ a) (ha2 : a ≤ 4610) (hk : ∀ i, 110 ≤ i → i < 5510 → am_gt M' 216 i = am_gt M 216 i) : nm_MT M' a T := by
  obtain ⟨h1, h2, h3⟩ := h
  have blk : ∀ i j f, nm_mblk M a i j f → nm_mblk M' a i j f := by
    rintro i j f ⟨cop, car, ht, b1, b2, b3, b4, b5⟩
    exact ⟨cop, car, ht, b1, b2, b3, b4, fun k x y => by rw [hk _ (by omega) (by omega), hk _ (by omega) (by omega)]; exact b5 k x y⟩
  refine ⟨by rw [hk _ (by omega) (by omega)]; exact h1, h2, fun k hl => ?_⟩
  obtain ⟨f, g, q1, q2, q3⟩ := h3 k hl
  refine ⟨f, g, ?_, ?_, ?_⟩
  · rw [hk _ (by omega) (by omega)]; exact q1
  · rw [hk _ (by omega) (by omega), hk _ (by omega) (by omega)]
    rcases q2 with q | ⟨q, r, s⟩
    · exact .inl q
    · exact .inr ⟨q, blk _ _ _ r, s⟩
  · rw [hk _ (by omega) (by omega), hk _ (by omega) (by omega), hk _ (by omega) (by omega)]
    exact fun h => blk _ _ _ (q3 h)
theorem nm_MW_kp2 {M M' : am_M} {W : nm_W} (h : nm_MW M W) (hk : ∀ i, 4 ≤ i → i < 29 → am_gt M' 216 i = am_gt M 216 i) : nm_MW M' W := by
  obtain ⟨h1, h2, h3, h4, h5, h6⟩ := h
  refine ⟨by rw [hk 4 (by decide) (by decide)]; exact h1, by rw [hk 8 (by decide) (by decide)]; exact h2, h3, fun p hp => by rw [hk _ (by omega) (by omega)]; exact h4 p hp, fun m a b => by rw [hk _ (by omega) (by omega)]; exact h5 m a b, fun p a b => by rw [hk _ (by omega) (by omega)]; exact h6 p a b⟩
/-- a row that holds what an image keeps -/
def nm_MG (M : am_M) (G : nm_G) : Prop := nm_MS M G.1 ∧ nm_MW M G.2.1 ∧ nm_MX M G.1 G.2.2
theorem nm_MG_kp {M M' : am_M} {G : nm_G} (hO : G.1 2 ≤ 6) (h : nm_MG M G) (hk : ∀ i, 0 ≤ i → i < 5510 → am_gt M' 216 i = am_gt M 216 i) : nm_MG M' G :=
  ⟨fun i hi => by rw [hk i (by unfold nm_si at hi; omega) (by unfold nm_si at hi; omega)]; exact h.1 i hi, nm_MW_kp2 h.2.1 (fun i a b => hk i (by omega) (by omega)), fun k k0 k1 => nm_MT_kp2 (h.2.2 k k0 k1) (by omega) (by omega) (fun i a b => hk i (by omega) b)⟩
def nm_MU (M : am_M) (S : Int → Int) (U : List (Int × nm_W)) : Prop := am_gt M 214 8 = (U.length : Int) ∧ U.length ≤ 16 ∧ ∀ k : Nat, k < U.length → am_gt M 220 (k : Int) = (U.getD k nm_u0).1 ∧ nm_MW (nm_mr (fun i => am_gt M 219 (25 * (k : Int) + (i - 4)))) (U.getD k nm_u0).2 ∧ ∀ i, 5 ≤ i → i ≤ 7 → am_gt M 219 (25 * (k : Int) + (i - 4)) = S i
def nm_MP (M : am_M) (P : Int → Int) (L : Int) : Prop := am_gt M 214 13 = L ∧ ∀ i, 0 ≤ i → i < L → am_gt M 223 i = P i
def nm_MR (M : am_M) (R : Int → Int) : Prop := am_gt M 214 1 = R 0 ∧ (∀ j, 1 ≤ j → j ≤ 6 → j ≠ 4 → am_gt M 215 j = R j) ∧ am_gt M 214 11 = R 7 ∧ am_gt M 214 18 = R 8 ∧ am_gt M 214 54 = R 9 ∧ am_gt M 214 58 = R 10
def nm_MY (M : am_M) (n : Int) (Y : nm_W) : Prop := n = -1 ∨ ((∀ p, 0 ≤ p → p < 8 → am_gt M 246 p = Y.2.2.2 p) ∧ ∀ m, 0 ≤ m → m < n → am_gt M 246 (8 + m) = Y.2.2.1 m ∧ am_gt M 246 (14 + m) = nm_ix Y.2.1 m)
def nm_MI (M : am_M) (k : Int) (G : nm_G) : Prop := nm_MG (nm_mr (fun i => am_gt M 217 (5510 * k + i))) G
def nm_M (M : am_M) (X : nm_X) : Prop := nm_MA M (nx_S X) (nx_W X) (nx_D X) ∧ (∀ k, 0 ≤ k → k < 2 → am_gt M 218 k = nx_K X k ∧ (nx_K X k = 1 → nm_MI M k (nx_I X k))) ∧ nm_MU M (nx_S X) (nx_U X) ∧ nm_MP M (nx_P X) (nx_L X) ∧ nm_MR M (nx_R X) ∧ nm_MY M (nx_R X 10) (nx_Y X)
abbrev nm_Mg1 : nm_Rg := [(214, 1, 2), (214, 8, 9), (214, 11, 12), (214, 13, 14), (214, 18, 19), (214, 20, 21), (214, 54, 55), (214, 58, 59)]
theorem nm_MU_fr {n s : Int} {f : nm_Rg} {M M' : am_M} {S : Int → Int} {U : List (Int × nm_W)} (h : nm_MU M S U) (hL : nm_Lay M) (F : nm_Fg n s f M M') (h1 : nm_dj f [(214, 8, 9)] = true) (h2 : nm_dj f [(219, 0, 400)] = true) (h3 : nm_no f 220 = true) : nm_MU M' S U := by
  obtain ⟨u0, u1, u2⟩ := h
  refine ⟨by rw [nm_gt_frd F hL (by decide) h1 (by decide)]; exact u0, u1, fun k hk => ?_⟩
  obtain ⟨q1, q2, q3⟩ := u2 k hk
  have e : ∀ i, 4 ≤ i → i < 29 → am_gt M' 219 (25 * (k : Int) + (i - 4)) = am_gt M 219 (25 * (k : Int) + (i - 4)) := fun i a b => nm_gt_frd F hL (by decide) h2 (nm_in_c (lo := 0) (hi := 400) (by decide) (by omega) (by omega))
  refine ⟨by rw [nm_gt_frn F hL (by decide) h3]; exact q1, nm_MW_kp2 q2 (fun i a b => e i a b), fun i a b => by rw [e i (by omega) (by omega)]; exact q3 i a b⟩
theorem nm_MI_fr {n s : Int} {f : nm_Rg} {M M' : am_M} {k : Int} {G : nm_G} (hO : G.1 2 ≤ 6) (h : nm_MI M k G) (hL : nm_Lay M) (F : nm_Fg n s f M M') (h1 : nm_no f 217 = true) : nm_MI M' k G := nm_MG_kp hO h (fun i _ _ => by rw [nm_mr_gt, nm_mr_gt]; exact nm_gt_frn F hL (by decide) h1)
abbrev nm_Mg2 : nm_Rg := [(214, 1, 2), (214, 11, 12), (214, 18, 19), (214, 54, 55), (214, 58, 59)]
theorem nm_MR_fr {n s : Int} {f : nm_Rg} {M M' : am_M} {R : Int → Int} (h : nm_MR M R) (hL : nm_Lay M) (F : nm_Fg n s f M M') (h1 : nm_dj f nm_Mg2 = true) (h2 : nm_no f 215 = true) : nm_MR M' R := by
  obtain ⟨r0, r1, r2, r3, r4, r5⟩ := h
  exact ⟨by rw [nm_gt_frd F hL (by decide) h1 (by decide)]; exact r0, fun j a b c => by rw [nm_gt_frn F hL (by decide) h2]; exact r1 j a b c, by rw [nm_gt_frd F hL (by decide) h1 (by decide)]; exact r2, by rw [nm_gt_frd F hL (by decide) h1 (by decide)]; exact r3, by rw [nm_gt_frd F hL (by decide) h1 (by decide)]; exact r4, by rw [nm_gt_frd F hL (by decide) h1 (by decide)]; exact r5⟩
theorem nm_MP_fr {n s : Int} {f : nm_Rg} {M M' : am_M} {P : Int → Int} {L : Int} (h : nm_MP M P L) (hL : nm_Lay M) (F : nm_Fg n s f M M') (h1 : nm_dj f [(214, 13, 14)] = true) (h2 : nm_no f 223 = true) : nm_MP M' P L := ⟨by rw [nm_gt_frd F hL (by decide) h1 (by decide)]; exact h.1, fun i a b => by rw [nm_gt_frn F hL (by decide) h2]; exact h.2 i a b⟩
theorem nm_MY_fr {n s : Int} {f : nm_Rg} {M M' : am_M} {k : Int} {Y : nm_W} (h : nm_MY M k Y) (hL : nm_Lay M) (F : nm_Fg n s f M M') (h1 : nm_no f 246 = true) : nm_MY M' k Y := by
  rcases h with h | ⟨a, b⟩
  · exact .inl h
  · exact .inr ⟨fun p x y => by rw [nm_gt_frn F hL (by decide) h1]; exact a p x y, fun m x y => by rw [nm_gt_frn F hL (by decide) h1, nm_gt_frn F hL (by decide) h1]; exact b m x y⟩
/-- a frame that keeps the reference's picture -/
def nm_mok (f : nm_Rg) : Bool := nm_lk f && (nm_no f 216 && (nm_dj f nm_Mg1 && (nm_no f 217 && (nm_no f 218 && (nm_dj f [(219, 0, 400)] && (nm_no f 220 && (nm_no f 223 && (nm_no f 215 && nm_no f 246))))))))
theorem nm_dj_m {f g h : nm_Rg} (hf : nm_dj f g = true) (hs : ∀ q ∈ h, q ∈ g) : nm_dj f h = true := List.all_eq_true.mpr (fun p hp => List.all_eq_true.mpr (fun q hq => List.all_eq_true.mp (List.all_eq_true.mp hf p hp) q (hs q hq)))
theorem nm_ok_I {X : nm_X} (h : nm_ok X) {k : Int} (k0 : 0 ≤ k) (k2 : k < 2) (hk : nx_K X k = 1) : (nx_I X k).1 2 ≤ 6 := by
  rcases h.2.1 k k0 k2 with e | ⟨-, e⟩
  · omega
  · exact e.1.2.2.1.2
theorem nm_M_fr {n s : Int} {f : nm_Rg} {M M' : am_M} {X : nm_X} (hok : nm_ok X) (h : nm_M M X) (F : nm_Fg n s f M M') (hf : nm_mok f = true) : nm_M M' X := by
  unfold nm_mok at hf
  simp only [Bool.and_eq_true] at hf
  obtain ⟨f1, f2, f3, f4, f5, f6, f7, f8, f9, f10⟩ := hf
  obtain ⟨m1, m2, m3, m4, m5, m6⟩ := h
  have hL := m1.1
  refine ⟨nm_MA_fr m1 F f1 f2 (nm_dj_m f3 (by decide)), fun k a b => ⟨by rw [nm_gt_frn F hL (by decide) f5]; exact (m2 k a b).1, fun e => nm_MI_fr (nm_ok_I hok a b e) ((m2 k a b).2 e) hL F f4⟩, nm_MU_fr m3 hL F (nm_dj_m f3 (by decide)) f6 f7, nm_MP_fr m4 hL F (nm_dj_m f3 (by decide)) f8, nm_MR_fr m5 hL F (nm_dj_m f3 (by decide)) f9, nm_MY_fr m6 hL F f10⟩
theorem nm_cAll_m : nm_mok nm_cAll = true := by decide +kernel
theorem nm_M_L {M : am_M} {X : nm_X} (h : nm_M M X) : nm_Lay M := h.1.1
abbrev nm_KM (X : nm_X) (r : List am_V) (M : am_M) (Q : List am_V → am_M → Prop) : Prop := ∀ M', nm_Fr nm_mAll M M' → nm_M M' X → Q r M'
theorem nm_mF {f : nm_Rg} {M M' : am_M} (F : nm_Fr f M M') (h : nm_sb f nm_mAll = true) : nm_Fr nm_mAll M M' := nm_Fr_sub F h
/-- nothing thrown -/
theorem nm_m0 {M : am_M} {X : nm_X} (hok : nm_ok X) (h : nm_M M X) : nm_M (am_st M 214 0 0) X := nm_M_fr hok h (nm_Fr_st (nm_Fg_refl [(214, 0, 1)] M) (by decide)) (by decide +kernel)
theorem nm_m0F {M : am_M} : nm_Fr nm_mAll M (am_st M 214 0 0) := nm_Fr_st (nm_Fg_refl _ _) (by decide +kernel)
/-- answers alone changed -/
abbrev nm_Mf : nm_Rg := [(214, 1, 2), (215, 0, 7)]
theorem nm_M_R {M M' : am_M} {X : nm_X} {R : Int → Int} (hok : nm_ok X) (h : nm_M M X) (F : nm_Fr nm_Mf M M') (r : nm_MR M' R) (e : R 10 = nx_R X 10) : nm_M M' (ns_R X R) := by
  obtain ⟨m1, m2, m3, m4, m5, m6⟩ := h
  have hL := m1.1
  refine ⟨nm_MA_fr m1 F (by decide +kernel) (by decide) (by decide), fun k a b => ⟨by rw [nm_gt_frn F hL (by decide) (by decide)]; exact (m2 k a b).1, fun e => nm_MI_fr (nm_ok_I hok a b e) ((m2 k a b).2 e) hL F (by decide)⟩, nm_MU_fr m3 hL F (by decide) (by decide) (by decide), nm_MP_fr m4 hL F (by decide) (by decide), r, ?_⟩
  show nm_MY M' (R 10) (nx_Y X)
  rw [e]; exact nm_MY_fr m6 hL F (by decide)
theorem nmm_145 {d : Nat} {a : Int} {R : Int → Int} {M : am_M} {Q : List am_V → am_M → Prop} (hv : 0 ≤ a ∨ a = -1 ∨ a = -2 ∨ a = -3 ∨ a = -5 ∨ a = -6) (hL : nm_Lay M) (hR : nm_MR M R) (hQ : ∀ M', nm_Fr nm_Mf M M' → nm_MR M' (nm_tl1 R a) → Q [(0, a)] M') : am_CL d 145 [(2, 214), (0, a)] M Q := by
  obtain ⟨r0, r1, r2, r3, r4, r5⟩ := hR
  refine h_145_0 hL ⟨fun h => ⟨fun _ => ?_, fun h' => absurd h h'⟩, fun h => ⟨fun h' => absurd h' h, fun _ => ?_⟩⟩
  · refine hQ _ (nm_Fr_st (nm_Fg_refl _ _) (by decide)) ?_
    unfold nm_tl1; rw [if_neg (by omega)]
    unfold nm_fn1
    refine ⟨by rw [nm_st_eq, nm_up_eq], fun j x y z => ?_, ?_, ?_, ?_, ?_⟩
    · rw [nm_st_ne (by decide), nm_up_ne (by omega)]; exact r1 j x y z
    · rw [nm_st_nj (by decide), nm_up_ne (by decide)]; exact r2
    · rw [nm_st_nj (by decide), nm_up_ne (by decide)]; exact r3
    · rw [nm_st_nj (by decide), nm_up_ne (by decide)]; exact r4
    · rw [nm_st_nj (by decide), nm_up_ne (by decide)]; exact r5
  · have w : am_w (-a) = -a := am_w_id (by omega) (by omega)
    rw [w]
    refine ⟨by omega, by omega, hQ _ (nm_Fr_st (nm_Fr_st (nm_Fg_refl _ _) (by decide)) (nm_in_c (lo := 0) (hi := 7) (by decide) (by omega) (by omega))) ?_⟩
    unfold nm_tl1; rw [if_pos (by omega)]
    refine ⟨by rw [nm_st_ne (by decide), nm_st_eq]; rfl, fun j x y z => ?_, ?_, ?_, ?_, ?_⟩
    · unfold nm_rf1
      rw [if_neg (by omega), nm_gt_st]
      by_cases hj : j = -a
      · rw [if_pos ⟨rfl, hj⟩, if_pos hj, r1 (-a) (by omega) (by omega) (by omega), hj]
      · rw [if_neg (fun c => hj c.2), if_neg hj, nm_st_ne (by decide)]; exact r1 j x y z
    · unfold nm_rf1; rw [if_neg (by omega), if_neg (by omega), nm_st_ne (by decide), nm_st_nj (by decide)]; exact r2
    · unfold nm_rf1; rw [if_neg (by omega), if_neg (by omega), nm_st_ne (by decide), nm_st_nj (by decide)]; exact r3
    · unfold nm_rf1; rw [if_neg (by omega), if_neg (by omega), nm_st_ne (by decide), nm_st_nj (by decide)]; exact r4
    · unfold nm_rf1; rw [if_neg (by omega), if_neg (by omega), nm_st_ne (by decide), nm_st_nj (by decide)]; exact r5
theorem nm_tl10 {R : Int → Int} {a : Int} (hv : 0 ≤ a ∨ a = -1 ∨ a = -2 ∨ a = -3 ∨ a = -5 ∨ a = -6) : nm_tl1 R a 10 = R 10 := by
  unfold nm_tl1
  by_cases h : a < 0
  · rw [if_pos h]; exact nm_rf10 (by omega)
  · rw [if_neg h]; exact nm_up_ne (by decide)
theorem nmy_145 {d : Nat} {a : Int} {X : nm_X} {M : am_M} {Q : List am_V → am_M → Prop} (hok : nm_ok X) (hv : 0 ≤ a ∨ a = -1 ∨ a = -2 ∨ a = -3 ∨ a = -5 ∨ a = -6) (hM : nm_M M X) (hQ : ∀ M', nm_Fr nm_Mf M M' → nm_M M' (nx_tl X a) → Q [(0, a)] M') : am_CL d 145 [(2, 214), (0, a)] M Q :=
  nmm_145 hv (nm_M_L hM) hM.2.2.2.2.1 (fun M' F r => hQ M' F (nm_M_R hok hM F r (nm_tl10 hv)))
theorem nx_tl_rf {X : nm_X} {a : Int} (h : a < 0) : nx_tl X a = nx_rf X a := by unfold nx_tl nx_rf nm_tl1; rw [if_pos h]
theorem nx_tl_fn {X : nm_X} {a : Int} (h : 0 ≤ a) : nx_tl X a = nx_fn X := by unfold nx_tl nx_fn nm_tl1; rw [if_neg (by omega)]
/-- refused, and nothing more -/
theorem nmq_ref {d k : Nat} {pc : Nat} {v : Int} {ls : List am_V} {X : nm_X} {M0 M : am_M} {Q : List am_V → am_M → Prop} (hok : nm_ok X) (hv : v = -1 ∨ v = -2 ∨ v = -3 ∨ v = -5 ∨ v = -6) (F0 : nm_Fr nm_mAll M0 M) (hM : nm_M M X) (hw : ∀ M', nm_Lay M' → Q [(0, v)] M' → am_WP d (am_cs k) pc ls [(0, v)] M' Q) (hQ : nm_KM (nx_rf X v) [(0, v)] M0 Q) : am_CL (d - 1) 145 [(2, 214), (0, v)] M (fun r M' => am_WP d (am_cs k) pc ls (r ++ []) M' Q) :=
  nmy_145 hok (by omega) hM (fun M' F C => hw M' (nm_M_L C) (hQ M' (nm_Fr_trans F0 (nm_mF F (by decide +kernel))) (by rw [nx_tl_rf (by omega)] at C; exact C)))
theorem nmm_155 {d : Nat} {m : Int} {M : am_M} {Q : List am_V → am_M → Prop} (hd : 1 ≤ d) (hL : nm_Lay M) (h1 : 0 ≤ m → m < 8 → Q [(0, 1)] M) (h0 : m < 0 ∨ 8 ≤ m → Q [(0, 0)] M) : am_CL d 155 [(0, m)] M Q := by
  refine h_155_0 hL ⟨by omega, nm_m142 hL ?_⟩
  by_cases h : 0 ≤ m ∧ m ≤ 7
  · rw [if_pos h]; exact h_155_9 hL ⟨.inr rfl, h1 h.1 (by omega)⟩
  · rw [if_neg h]; exact h_155_9 hL ⟨.inl rfl, h0 (by omega)⟩
theorem nmm_156 {d : Nat} {m : Int} {M : am_M} {Q : List am_V → am_M → Prop} (hd : 1 ≤ d) (hL : nm_Lay M) (h1 : 1 ≤ m → m ≤ 8 → Q [(0, 1)] M) (h0 : m < 1 ∨ 8 < m → Q [(0, 0)] M) : am_CL d 156 [(0, m)] M Q := by
  refine h_156_0 hL ⟨by omega, nm_m142 hL ?_⟩
  by_cases h : 1 ≤ m ∧ m ≤ 8
  · rw [if_pos h]; exact h_156_9 hL ⟨.inr rfl, h1 h.1 h.2⟩
  · rw [if_neg h]; exact h_156_9 hL ⟨.inl rfl, h0 (by omega)⟩
theorem nmm_142 {d : Nat} {v lo hi : Int} {M : am_M} {Q : List am_V → am_M → Prop} (hL : nm_Lay M) (h1 : lo ≤ v → v ≤ hi → Q [(0, 1)] M) (h0 : v < lo ∨ hi < v → Q [(0, 0)] M) : am_CL d 142 [(1, v), (1, lo), (1, hi)] M Q := by
  refine nm_m142 hL ?_
  by_cases h : lo ≤ v ∧ v ≤ hi
  · rw [if_pos h]; exact h1 h.1 h.2
  · rw [if_neg h]; exact h0 (by omega)
theorem nmm_154 {d : Nat} {m : Int} {S : Int → Int} {M : am_M} {Q : List am_V → am_M → Prop} (hd : 1 ≤ d) (hL : nm_Lay M) (hS : nm_MS M S) (hO : nm_okS S) (h1 : 0 ≤ m → m < S 0 → Q [(0, 1)] M) (h0 : m < 0 ∨ S 0 ≤ m → Q [(0, 0)] M) : am_CL d 154 [(2, 214), (0, m)] M Q := by
  have e : am_gt M 216 0 = S 0 := hS 0 (by unfold nm_si; omega)
  have o := hO.1
  refine nm_m154 hd hL (by omega) (by omega) ?_
  rw [e]
  by_cases h : 0 ≤ m ∧ m < S 0
  · rw [if_pos h]; exact h1 h.1 h.2
  · rw [if_neg h]; exact h0 (by omega)
/-- the parts of a number, as the reference counts them -/
def nm_mdl : Nat → Int → Int → Int → Int
  | 0, n, s, _ => if s = 0 then -1 else n
  | f + 1, n, s, r => if r ≤ 0 then (if s = 0 then -1 else n) else nm_mdl f (n + 1) (if s = 0 ∨ (r % 10 < 1 ∨ 8 < r % 10) then 0 else 1) (r / 10)
theorem nm_mdl0 : ∀ (f : Nat) (n r : Int), nm_mdl f n 0 r = -1
  | 0, _, _ => rfl
  | f + 1, n, r => by
    show (if r ≤ 0 then _ else _) = _
    by_cases h : r ≤ 0
    · rw [if_pos h]; rfl
    · rw [if_neg h, if_pos (Or.inl rfl), nm_mdl0 f]
theorem nm_mdl_z {f : Nat} {n r : Int} (h : r = 0) : nm_mdl f n 1 r = n := by
  cases f with
  | zero => rfl
  | succ f => unfold nm_mdl; rw [if_pos (by omega)]; rfl
theorem nm_mdl_b {f : Nat} {n r : Int} (h : 0 < r) (hb : r % 10 < 1 ∨ 8 < r % 10) : nm_mdl (f + 1) n 1 r = -1 := by
  show (if r ≤ 0 then _ else _) = _
  rw [if_neg (by omega), if_pos (.inr hb), nm_mdl0]
theorem nm_mdl_s {f : Nat} {n r : Int} (h : 0 < r) (hb : ¬ (r % 10 < 1 ∨ 8 < r % 10)) : nm_mdl (f + 1) n 1 r = nm_mdl f (n + 1) 1 (r / 10) := by
  show (if r ≤ 0 then _ else _) = _
  rw [if_neg (by omega), if_neg (by omega)]
theorem nm_mdl_pc {v : Int} (h : 0 < v) (h2 : v ≤ 88888) : nm_mdl 5 0 1 v = if nm_pc v = 0 then -1 else nm_pc v := by
  by_cases c0 : v % 10 < 1 ∨ 8 < v % 10
  · have e : nm_pc v = 0 := by unfold nm_pc; rw [if_neg (show ¬ v ≤ 0 by omega), if_pos c0]
    rw [nm_mdl_b h c0, e]; rfl
  rw [nm_mdl_s h c0]
  by_cases z0 : v / 10 = 0
  · have e : nm_pc v = 1 := by unfold nm_pc; rw [if_neg (show ¬ v ≤ 0 by omega), if_neg c0, if_pos z0]
    rw [nm_mdl_z z0, e]; rfl
  by_cases c1 : v / 10 % 10 < 1 ∨ 8 < v / 10 % 10
  · have e : nm_pc v = 0 := by unfold nm_pc; rw [if_neg (show ¬ v ≤ 0 by omega), if_neg c0, if_neg z0, if_pos c1]
    rw [nm_mdl_b (by omega) c1, e]; rfl
  rw [nm_mdl_s (by omega) c1, show v / 10 / 10 = v / 100 by omega]
  by_cases z1 : v / 100 = 0
  · have e : nm_pc v = 2 := by unfold nm_pc; rw [if_neg (show ¬ v ≤ 0 by omega), if_neg c0, if_neg z0, if_neg c1, if_pos z1]
    rw [nm_mdl_z z1, e]; rfl
  by_cases c2 : v / 100 % 10 < 1 ∨ 8 < v / 100 % 10
  · have e : nm_pc v = 0 := by unfold nm_pc; rw [if_neg (show ¬ v ≤ 0 by omega), if_neg c0, if_neg z0, if_neg c1, if_neg z1, if_pos c2]
    rw [nm_mdl_b (by omega) c2, e]; rfl
  rw [nm_mdl_s (by omega) c2, show v / 100 / 10 = v / 1000 by omega]
  by_cases z2 : v / 1000 = 0
  · have e : nm_pc v = 3 := by unfold nm_pc; rw [if_neg (show ¬ v ≤ 0 by omega), if_neg c0, if_neg z0, if_neg c1, if_neg z1, if_neg c2, if_pos z2]
    rw [nm_mdl_z z2, e]; rfl
  by_cases c3 : v / 1000 % 10 < 1 ∨ 8 < v / 1000 % 10
  · have e : nm_pc v = 0 := by unfold nm_pc; rw [if_neg (show ¬ v ≤ 0 by omega), if_neg c0, if_neg z0, if_neg c1, if_neg z1, if_neg c2, if_neg z2, if_pos c3]
    rw [nm_mdl_b (by omega) c3, e]; rfl
  rw [nm_mdl_s (by omega) c3, show v / 1000 / 10 = v / 10000 by omega]
  by_cases z3 : v / 10000 = 0
  · have e : nm_pc v = 4 := by unfold nm_pc; rw [if_neg (show ¬ v ≤ 0 by omega), if_neg c0, if_neg z0, if_neg c1, if_neg z1, if_neg c2, if_neg z2, if_neg c3, if_pos z3]
    rw [nm_mdl_z z3, e]; rfl
  by_cases c4 : v / 10000 % 10 < 1 ∨ 8 < v / 10000 % 10
  · have e : nm_pc v = 0 := by unfold nm_pc; rw [if_neg (show ¬ v ≤ 0 by omega), if_neg c0, if_neg z0, if_neg c1, if_neg z1, if_neg c2, if_neg z2, if_neg c3, if_neg z3, if_pos c4]
    rw [nm_mdl_b (by omega) c4, e]; rfl
  rw [nm_mdl_s (by omega) c4, show v / 10000 / 10 = v / 100000 by omega]
  have e : nm_pc v = 5 := by unfold nm_pc; rw [if_neg (show ¬ v ≤ 0 by omega), if_neg c0, if_neg z0, if_neg c1, if_neg z1, if_neg c2, if_neg z2, if_neg c3, if_neg z3, if_neg c4, if_pos (by omega)]
  rw [nm_mdl_z (by omega), e]; rfl
theorem nmm_158 {d : Nat} {v : Int} {M : am_M} {Q : List am_V → am_M → Prop} (hd : 1 ≤ d) (hL : nm_Lay M) (hQ : Q [(0, if nm_pc v = 0 then -1 else nm_pc v)] M) : am_CL d 158 [(0, v)] M Q := by
  have key : ∀ (f : Nat) (n s r : Int), 0 ≤ n → n + (f : Int) ≤ 100 → (s = 0 ∨ s = 1) → 0 ≤ r → r ≤ 88888 → r < 10 ^ f → Q [(0, nm_mdl f n s r)] M → am_WP d am_c158 28 [(0, v), (0, n), (0, s), (0, r)] [] M Q := by
    intro f
    induction f with
    | zero =>
      intro n s r n0 n1 hs r0 r1 r2 q
      have : r = 0 := by rw [Int.pow_zero] at r2; omega
      exact h_158_28 hL ⟨fun _ => ⟨fun h => by unfold nm_mdl at q; rw [if_pos h] at q; exact q, fun h => by unfold nm_mdl at q; rw [if_neg h] at q; exact q⟩, fun h => absurd this (by omega)⟩
    | succ f ih =>
      intro n s r n0 n1 hs r0 r1 r2 q
      rw [Int.pow_succ] at r2
      have w1 : am_w (n + 1) = n + 1 := am_w_id (by omega) (by omega)
      have w2 : am_w (r.tdiv 10) = r / 10 := by rw [nm_td r0, am_w_id (by omega) (by omega)]
      have q' : Q [(0, if r ≤ 0 then (if s = 0 then -1 else n) else nm_mdl f (n + 1) (if s = 0 ∨ (r % 10 < 1 ∨ 8 < r % 10) then 0 else 1) (r / 10))] M := q
      refine h_158_28 hL ?_
      rw [w1, w2, nm_tm r0]
      refine ⟨fun h => ⟨fun h' => by rw [if_pos h, if_pos h'] at q'; exact q', fun h' => by rw [if_pos h, if_neg h'] at q'; exact q'⟩, fun h => ⟨fun h' => ?_, fun h' => ⟨by omega, nmm_142 hL (fun a b => ?_) (fun a => ?_)⟩⟩⟩
      · rw [if_neg h, if_pos (.inl h')] at q'
        exact ih (n + 1) 0 (r / 10) (by omega) (by omega) (.inl rfl) (by omega) (by omega) (by omega) q'
      · rw [if_neg h, if_neg (by omega)] at q'
        refine h_158_48 hL ?_
        rw [w1, w2]
        exact ⟨fun h => absurd h (by decide), fun _ => ih (n + 1) 1 (r / 10) (by omega) (by omega) (.inr rfl) (by omega) (by omega) (by omega) q'⟩
      · rw [if_neg h, if_pos (by omega)] at q'
        refine h_158_48 hL ?_
        rw [w1, w2]
        exact ⟨fun _ => ih (n + 1) 0 (r / 10) (by omega) (by omega) (.inl rfl) (by omega) (by omega) (by omega) q', fun h => absurd rfl h⟩
  have bad : nm_pc v = 0 → am_WP d am_c158 28 [(0, v), (0, 0), (0, 0), (0, 0)] [] M Q := by
    intro h
    rw [if_pos h] at hQ
    exact key 0 0 0 0 (by decide) (by decide) (.inl rfl) (by decide) (by decide) (by decide) hQ
  refine h_158_0 hL ⟨fun h => ⟨fun _ => bad ?_, fun h => absurd rfl h⟩, fun h => ⟨fun h' => ⟨fun _ => bad ?_, fun h => absurd rfl h⟩, fun h' => ⟨fun h => absurd h (by decide), fun _ => ?_⟩⟩⟩
  · unfold nm_pc; rw [if_pos h]
  · unfold nm_pc
    repeat' split
    all_goals omega
  · refine key 5 0 1 v (by decide) (by decide) (.inr rfl) (by omega) (by omega) (by simp only [Int.reducePow]; omega) ?_
    rw [nm_mdl_pc (by omega) (by omega)]; exact hQ
theorem nm_sb1 {a lo hi lo' hi' : Int} {f : nm_Rg} (hm : (a, lo', hi') ∈ f) (h1 : lo' ≤ lo) (h2 : hi ≤ hi') : nm_sb [(a, lo, hi)] f = true := by
  unfold nm_sb
  simp only [List.all_cons, List.all_nil, Bool.and_true, List.any_eq_true, Bool.and_eq_true, decide_eq_true_eq]
  exact ⟨_, hm, rfl, h1, h2⟩
/-- a snapshot -/
theorem nmm_148 {d : Nat} {k : Int} {M : am_M} {Q : List am_V → am_M → Prop} (hL : nm_Lay M) (k0 : 0 ≤ k) (k1 : k < 18) (hQ : ∀ M', nm_Fr [(219, 25 * k, 25 * k + 25)] M M' → (∀ i, 4 ≤ i → i < 29 → am_gt M' 219 (25 * k + (i - 4)) = am_gt M 216 i) → Q [] M') : am_CL d 148 [(2, 214), (0, k)] M Q := by
  refine h_148_0 hL ?_
  have key : ∀ j : Nat, j ≤ 25 → ∀ M1, nm_Fr [(219, 25 * k, 25 * k + 25)] M M1 → (∀ i, 4 ≤ i → i < 4 + (j : Int) → am_gt M1 219 (25 * k + (i - 4)) = am_gt M 216 i) → am_WP d am_c148 2 [(2, 214), (0, k), (0, (j : Int))] [] M1 Q := by
    refine nm_dn ?_
    intro j hj ih M1 F a1
    have hL1 : nm_Lay M1 := nm_Lay_fr hL (nm_Fr_sub F (g := [(219, 0, 450)]) (nm_sb1 (lo' := 0) (hi' := 450) (by decide) (by omega) (by omega))) (by decide +kernel)
    have g : ∀ i, am_gt M1 216 i = am_gt M 216 i := fun i => nm_gt_frn F hL (by decide) (by unfold nm_no; simp only [List.all_cons, List.all_nil, Bool.and_true, Bool.not_eq_true', decide_eq_false_iff_not]; omega)
    refine h_148_2 hL1 ⟨fun h => hQ M1 F (fun i a b => a1 i a (by omega)), fun h => ?_⟩
    rw [am_w_id (x := 4 + (j : Int)) (by omega) (by omega), am_w_id (x := 25 * k) (by omega) (by omega), am_w_id (x := 25 * k + (j : Int)) (by omega) (by omega), nm_wk (by omega), g]
    refine ⟨by omega, by omega, by omega, by omega, ih (by omega) _ (nm_Fr_st F (nm_in_c (lo := 25 * k) (hi := 25 * k + 25) (List.mem_singleton.mpr rfl) (by omega) (by omega))) (fun i a b => ?_)⟩
    rw [nm_gt_st]
    by_cases hi : i = 4 + (j : Int)
    · rw [if_pos ⟨rfl, by omega⟩, hi]
    · rw [if_neg (by omega)]; exact a1 i a (by omega)
  exact key 0 (Nat.zero_le _) M (nm_Fg_refl _ _) (fun i a b => absurd b (by omega))
theorem nmm_149 {d : Nat} {k : Int} {M : am_M} {Q : List am_V → am_M → Prop} (hL : nm_Lay M) (k0 : 0 ≤ k) (k1 : k < 18) (hQ : ∀ M', nm_Fr [(216, 4, 29)] M M' → (∀ i, 4 ≤ i → i < 29 → am_gt M' 216 i = am_gt M 219 (25 * k + (i - 4))) → Q [] M') : am_CL d 149 [(2, 214), (0, k)] M Q := by
  refine h_149_0 hL ?_
  have key : ∀ j : Nat, j ≤ 25 → ∀ M1, nm_Fr [(216, 4, 29)] M M1 → (∀ i, 4 ≤ i → i < 4 + (j : Int) → am_gt M1 216 i = am_gt M 219 (25 * k + (i - 4))) → am_WP d am_c149 2 [(2, 214), (0, k), (0, (j : Int))] [] M1 Q := by
    refine nm_dn ?_
    intro j hj ih M1 F a1
    have hL1 : nm_Lay M1 := nm_Lay_fr hL F (by decide +kernel)
    have g : ∀ i, am_gt M1 219 i = am_gt M 219 i := fun i => nm_gt_frn F hL (by decide) (by decide)
    refine h_149_2 hL1 ⟨fun h => hQ M1 F (fun i a b => a1 i a (by omega)), fun h => ?_⟩
    rw [am_w_id (x := 4 + (j : Int)) (by omega) (by omega), am_w_id (x := 25 * k) (by omega) (by omega), am_w_id (x := 25 * k + (j : Int)) (by omega) (by omega), nm_wk (by omega), g]
    refine ⟨by omega, by omega, by omega, by omega, ih (by omega) _ (nm_Fr_st F (nm_in_c (lo := 4) (hi := 29) (by decide) (by omega) (by omega))) (fun i a b => ?_)⟩
    rw [nm_gt_st]
    by_cases hi : i = 4 + (j : Int)
    · rw [if_pos ⟨rfl, by omega⟩, show i - 4 = (j : Int) by omega]
    · rw [if_neg (by omega)]; exact a1 i a (by omega)
  exact key 0 (Nat.zero_le _) M (nm_Fg_refl _ _) (fun i a b => absurd b (by omega))
/-- one more is kept -/
theorem nmm_150 {d : Nat} {kind : Int} {S : Int → Int} {W : nm_W} {U : List (Int × nm_W)} {M : am_M} {Q : List am_V → am_M → Prop} (hd : 2 ≤ d) (hL : nm_Lay M) (hS : nm_MS M S) (hW : nm_MW M W) (hU : nm_MU M S U) (hQ : ∀ M', nm_Fr [(214, 8, 9), (219, 0, 400), (220, 0, 16)] M M' → nm_MU M' S (nm_keep U kind W) → Q [] M') : am_CL d 150 [(2, 214), (0, kind)] M Q := by
  have lay : ∀ {M1}, nm_Fr [(214, 8, 9), (219, 0, 400), (220, 0, 16)] M M1 → nm_Lay M1 := fun F => nm_Lay_fr hL F (by decide +kernel)
  have fin : ∀ (M1 : am_M) (U1 : List (Int × nm_W)) (l : am_V), nm_Fr [(214, 8, 9), (219, 0, 400), (220, 0, 16)] M M1 → nm_MU M1 S U1 → U1.length < 16 → nm_keep U kind W = U1 ++ [(kind, W)] → am_CL (d - 1) 148 [(2, 214), (0, (U1.length : Int))] M1 (fun r M' => am_WP d am_c150 85 [(2, 214), (0, kind), l] (r ++ []) M' Q) := by
    intro M1 U1 l F hU1 hl ek
    obtain ⟨u0, u1, u2⟩ := hU1
    refine nmm_148 (lay F) (by omega) (by omega) (fun M2 F2 a2 => ?_)
    have F2' := nm_Fr_sub F2 (g := [(214, 8, 9), (219, 0, 400), (220, 0, 16)]) (nm_sb1 (a := 219) (lo' := 0) (hi' := 400) (by decide) (by omega) (by omega))
    have F02 := nm_Fr_trans F F2'
    have n2 : ∀ c, c ≠ 219 → nm_no [(219, 25 * (U1.length : Int), 25 * (U1.length : Int) + 25)] c = true := by
      intro c hc; unfold nm_no; simp only [List.all_cons, List.all_nil, Bool.and_true, Bool.not_eq_true', decide_eq_false_iff_not]; omega
    have e8 : am_gt M2 214 8 = (U1.length : Int) := by rw [nm_gt_frn F2 (lay F) (by decide) (n2 _ (by decide))]; exact u0
    refine h_150_85 (lay F02) ?_
    rw [e8, am_w_id (by omega) (by omega)]
    refine ⟨by omega, by omega, hQ _ (nm_Fr_st (nm_Fr_st F02 (nm_in_c (lo := 0) (hi := 16) (by decide) (by omega) (by omega))) (by decide)) ?_⟩
    rw [ek]
    have hlen : (U1 ++ [(kind, W)]).length = U1.length + 1 := by rw [List.length_append]; rfl
    refine ⟨by rw [nm_st_eq, hlen]; omega, by omega, fun k hk => ?_⟩
    rw [hlen] at hk
    have e219 : ∀ i, am_gt (am_st (am_st M2 220 (U1.length : Int) kind) 214 8 ((U1.length : Int) + 1)) 219 i = am_gt M2 219 i := fun i => by rw [nm_st_ne (by decide), nm_st_ne (by decide)]
    have g216 : ∀ i, am_gt M1 216 i = am_gt M 216 i := fun i => nm_gt_frn F hL (by decide) (by decide)
    by_cases hkl : k = U1.length
    · have hx : (U1 ++ [(kind, W)]).getD k nm_u0 = (kind, W) := by rw [hkl, List.getD_eq_getElem?_getD, List.getElem?_concat_length]; rfl
      rw [hx]
      refine ⟨by rw [nm_st_ne (by decide), hkl, nm_st_eq], nm_MW_kp2 hW (fun i a b => ?_), fun i a b => ?_⟩
      · rw [nm_mr_gt, e219, hkl, a2 i a b, g216]
      · rw [e219, hkl, a2 i (by omega) (by omega), g216]; exact hS i (by unfold nm_si; omega)
    · have hx : (U1 ++ [(kind, W)]).getD k nm_u0 = U1.getD k nm_u0 := by rw [List.getD_eq_getElem?_getD, List.getD_eq_getElem?_getD, List.getElem?_append_left (by omega)]
      rw [hx]
      obtain ⟨q1, q2, q3⟩ := u2 k (by omega)
      have ee : ∀ i, 4 ≤ i → i < 29 → am_gt M2 219 (25 * (k : Int) + (i - 4)) = am_gt M1 219 (25 * (k : Int) + (i - 4)) := by
        intro i a b
        refine nm_gt_fr F2 (by have := (lay F).2.2.1; omega) ?_
        rw [Bool.eq_false_iff]; intro hc
        obtain ⟨q, hq, h1, h2, h3⟩ := nm_in_iff.mp hc
        simp only [List.mem_singleton] at hq
        subst hq
        simp only at h2 h3
        omega
      refine ⟨by rw [nm_st_ne (by decide), nm_st_nj (by omega), nm_gt_frn F2 (lay F) (by decide) (n2 _ (by decide))]; exact q1, nm_MW_kp2 q2 (fun i a b => ?_), fun i a b => ?_⟩
      · rw [nm_mr_gt, nm_mr_gt, e219, ee i a b]
      · rw [e219, ee i (by omega) (by omega)]; exact q3 i a b
  have hU' := hU
  obtain ⟨u0, u1, u2⟩ := hU
  refine h_150_0 hL ?_
  rw [u0]
  refine ⟨fun h => ⟨by omega, fin M U _ (nm_Fg_refl _ _) hU' (by omega) (by unfold nm_keep; rw [if_neg (by omega)])⟩, fun h => ?_⟩
  have h16 : U.length = 16 := by omega
  have k1 : ∀ j : Nat, j ≤ 375 → ∀ M1, nm_Fr [(219, 0, 400)] M M1 → (∀ i, 0 ≤ i → i < 400 → am_gt M1 219 i = if i < (j : Int) then am_gt M 219 (i + 25) else am_gt M 219 i) → am_WP d am_c150 11 [(2, 214), (0, kind), (0, (j : Int))] [] M1 Q := by
    refine nm_dn ?_
    intro j hj ih M1 F a1
    have hL1 := nm_Lay_fr hL F (by decide +kernel)
    refine h_150_11 hL1 ⟨fun h => ?_, fun h => ?_⟩
    · have hj5 : j = 375 := by omega
      subst hj5
      have k2 : ∀ n : Nat, n ≤ 15 → ∀ M2, nm_Fr [(220, 0, 16)] M1 M2 → (∀ i, 0 ≤ i → i < 16 → am_gt M2 220 i = if i < (n : Int) then am_gt M 220 (i + 1) else am_gt M 220 i) → am_WP d am_c150 41 [(2, 214), (0, kind), (0, (n : Int))] [] M2 Q := by
        refine nm_dn ?_
        intro n hn ih2 M2 F2 a2
        have hL2 := nm_Lay_fr hL1 F2 (by decide +kernel)
        refine h_150_41 hL2 ⟨fun h => ⟨by omega, ?_⟩, fun h => ?_⟩
        · have hn5 : n = 15 := by omega
          subst hn5
          have e8 : am_gt M2 214 8 = 16 := by rw [nm_gt_frn F2 hL1 (by decide) (by decide), nm_gt_frn F hL (by decide) (by decide), u0, h16]; rfl
          rw [e8, am_w_id (by decide) (by decide)]
          have F3 : nm_Fr [(214, 8, 9), (219, 0, 400), (220, 0, 16)] M (am_st M2 214 8 15) := nm_Fr_st (nm_Fr_trans (nm_Fr_sub F (by decide)) (nm_Fr_sub F2 (by decide))) (by decide)
          have hl : (U.drop 1).length = 15 := by rw [List.length_drop, h16]
          have := fin (am_st M2 214 8 15) (U.drop 1) (0, ((15 : Nat) : Int)) F3 ?_ (by omega) (by unfold nm_keep; rw [if_pos h16])
          · rw [hl] at this; exact this
          · refine ⟨by rw [nm_st_eq, hl]; rfl, by omega, fun k hk => ?_⟩
            rw [hl] at hk
            have hx : (U.drop 1).getD k nm_u0 = U.getD (k + 1) nm_u0 := by
              rw [List.getD_eq_getElem?_getD, List.getElem?_drop, List.getD_eq_getElem?_getD, Nat.add_comm 1 k]
            obtain ⟨q1, q2, q3⟩ := u2 (k + 1) (by omega)
            have hc : ((k + 1 : Nat) : Int) = (k : Int) + 1 := by omega
            rw [hc] at q1 q2 q3
            have ee : ∀ i, 4 ≤ i → i < 29 → am_gt (am_st M2 214 8 15) 219 (25 * (k : Int) + (i - 4)) = am_gt M 219 (25 * ((k : Int) + 1) + (i - 4)) := by
              intro i a b
              rw [nm_st_ne (by decide), nm_gt_frn F2 hL1 (by decide) (by decide), a1 _ (by omega) (by omega), if_pos (by omega), show 25 * (k : Int) + (i - 4) + 25 = 25 * ((k : Int) + 1) + (i - 4) by omega]
            rw [hx]
            refine ⟨by rw [nm_st_ne (by decide), a2 _ (by omega) (by omega), if_pos (by omega)]; exact q1, nm_MW_kp2 q2 (fun i a b => ?_), fun i a b => ?_⟩
            · rw [nm_mr_gt, nm_mr_gt]; exact ee i a b
            · rw [ee i (by omega) (by omega)]; exact q3 i a b
        · have e1 : am_gt M2 220 ((n : Int) + 1) = am_gt M 220 ((n : Int) + 1) := by rw [a2 _ (by omega) (by omega), if_neg (by omega)]
          rw [am_w_id (x := (n : Int) + 1) (by omega) (by omega), e1]
          refine ⟨by omega, by omega, by omega, by omega, ?_⟩
          have := ih2 (by omega) (am_st M2 220 (n : Int) (am_gt M 220 ((n : Int) + 1))) (nm_Fr_st F2 (nm_in_c (lo := 0) (hi := 16) (by decide) (by omega) (by omega))) (fun i x y => by
            rw [nm_gt_st]
            by_cases hi : i = (n : Int)
            · subst hi; rw [if_pos ⟨rfl, rfl⟩, if_pos (by omega)]
            · rw [if_neg (fun c => hi c.2), a2 i x y]
              by_cases h2 : i < (n : Int)
              · rw [if_pos h2, if_pos (by omega)]
              · rw [if_neg h2, if_neg (by omega)])
          rw [show ((n + 1 : Nat) : Int) = (n : Int) + 1 by omega] at this
          exact this
      exact k2 0 (Nat.zero_le _) M1 (nm_Fg_refl _ _) (fun i x y => by rw [if_neg (by omega), nm_gt_frn F hL (by decide) (by decide)])
    · have e1 : am_gt M1 219 ((j : Int) + 25) = am_gt M 219 ((j : Int) + 25) := by rw [a1 _ (by omega) (by omega), if_neg (by omega)]
      rw [am_w_id (x := (j : Int) + 25) (by omega) (by omega), am_w_id (x := (j : Int) + 1) (by omega) (by omega), e1]
      refine ⟨by omega, by omega, by omega, by omega, ?_⟩
      have := ih (by omega) (am_st M1 219 (j : Int) (am_gt M 219 ((j : Int) + 25))) (nm_Fr_st F (nm_in_c (lo := 0) (hi := 400) (by decide) (by omega) (by omega))) (fun i x y => by
        rw [nm_gt_st]
        by_cases hi : i = (j : Int)
        · subst hi; rw [if_pos ⟨rfl, rfl⟩, if_pos (by omega)]
        · rw [if_neg (fun c => hi c.2), a1 i x y]
          by_cases h2 : i < (j : Int)
          · rw [if_pos h2, if_pos (by omega)]
          · rw [if_neg h2, if_neg (by omega)])
      rw [show ((j + 1 : Nat) : Int) = (j : Int) + 1 by omega] at this
      exact this
  exact k1 0 (Nat.zero_le _) M (nm_Fg_refl _ _) (fun i x y => by rw [if_neg (by omega)])
