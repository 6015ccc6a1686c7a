/-! THE REFERENCE'S PILE -/
abbrev rm_L : Type := List (Int × rd_F)
theorem nm_MB_c {o : Int} {cop car cop' car' : Int → Int} {i j ht : Int} {f : rd_F} (h : nm_MB o cop car i j ht f) (hc : ∀ k, i ≤ k → k < j → cop' k = cop k ∧ car' k = car k) : nm_MB o cop' car' i j ht f := by
  obtain ⟨f0, f00, f1, f3⟩ := h
  refine ⟨f0, f00, f1, ?_⟩
  intro d M x1 x2 n e Q l5 l6 hd hh
  refine f3 d M x1 x2 n e Q l5 l6 hd ?_
  obtain ⟨h1, h2, h3, h4, h5, h6, h7⟩ := hh
  refine ⟨h1, h2, h3, h4, h5, ?_, h7⟩
  rcases h6 with ⟨a, b, c, g⟩ | ⟨a, g⟩
  · exact .inl ⟨a, b, c, fun k x y => ⟨(g k x y).1.trans (hc k x y).1, (g k x y).2.trans (hc k x y).2⟩⟩
  · exact .inr ⟨a, fun k x y => ⟨(g k x y).1.trans (hc k x y).1, (g k x y).2.trans (hc k x y).2⟩⟩
theorem nm_MB_h {o : Int} {cop car : Int → Int} {i j ht ht' : Int} {f : rd_F} (h : nm_MB o cop car i j ht f) (hh : ht ≤ ht') : nm_MB o cop car i j ht' f := by
  obtain ⟨f0, f00, f1, f3⟩ := h
  refine ⟨f0, by omega, f1, ?_⟩
  intro d M x1 x2 n e Q l5 l6 hd h1 h2 h3 h4 h5
  exact f3 d M x1 x2 n e Q l5 l6 hd h1 h2 h3 h4 (by omega)
/-- code from i to j that tells f -/
def rm_B (M : am_M) (o i j : Int) (f : rd_F) : Prop := nm_MB o (am_gt M 225) (am_gt M 226) i j (j - i) f
theorem rm_B_c {M M' : am_M} {o i j : Int} {f : rd_F} (h : rm_B M o i j f) (hc : ∀ k, i ≤ k → k < j → am_gt M' 225 k = am_gt M 225 k ∧ am_gt M' 226 k = am_gt M 226 k) : rm_B M' o i j f := nm_MB_c h hc
theorem rm_B_lt {M : am_M} {o i j : Int} {f : rd_F} (h : rm_B M o i j f) : i < j := h.1
def rm_bd (op : Int) : Int := if 31 ≤ op then 0 else if op = 30 then 1 else if op = 29 then 2 else if op = 28 then 3 else if 25 ≤ op then 4 else if 22 ≤ op then 6 else 5
/-- what the pile's op makes of what stands before it and behind it -/
def rm_ap (op : Int) (f cur : rd_F) : rd_F := if op ≤ 27 then nm_bin (op - 14) f cur else if op = 28 then nm_not cur else if op = 29 then nm_jmp 0 f cur else nm_jmp 1 f cur
def rm_fd : rm_L → rd_F → rd_F
  | [], cur => cur
  | q :: r, cur => rm_fd r (rm_ap q.1 q.2 cur)
def rm_s0 : rm_L → rd_F → Prop
  | [], _ => True
  | q :: r, cur => (q.1 = 28 → nm_b01 cur) ∧ rm_s0 r (rm_ap q.1 q.2 cur)
/-- how many brackets are open, how many steps of code are still to come -/
def rm_nb : rm_L → Int
  | [] => 0
  | q :: r => (if 31 ≤ q.1 then 1 else 0) + rm_nb r
def rm_w : rm_L → Int
  | [] => 0
  | q :: r => (if q.1 ≤ 28 then 1 else 0) + rm_w r
def rm_in : rm_L → Int
  | [] => -1
  | q :: r => if 31 ≤ q.1 then q.1 else rm_in r
def rm_cp : rm_L → Bool
  | [] => false
  | q :: r => if q.1 ≤ 24 then rm_cp r else decide (q.1 ≤ 27)
theorem rm_w0 : ∀ l : rm_L, 0 ≤ rm_w l
  | [] => Int.le_refl _
  | q :: r => by have := rm_w0 r; simp only [rm_w]; split <;> omega
theorem rm_w_app : ∀ (l m : rm_L), rm_w (l ++ m) = rm_w l + rm_w m
  | [], m => by simp [rm_w]
  | q :: r, m => by simp only [List.cons_append, rm_w]; rw [rm_w_app r m]; omega
/-- the pile in memory -/
def rm_pm (M : am_M) : rm_L → Prop
  | [] => True
  | q :: r => am_gt M 227 (r.length : Int) = q.1 ∧ (20 ≤ q.1 ∧ q.1 ≤ 32) ∧ (q.1 = 29 ∨ q.1 = 30 → 0 ≤ am_gt M 228 (r.length : Int) ∧ am_gt M 228 (r.length : Int) < 400) ∧ rm_pm M r
/-- the code that it stands for: up to j -/
def rm_cd (M : am_M) (o i0 : Int) : rm_L → Int → Prop
  | [], j => j = i0
  | q :: r, j => if q.1 ≤ 27 then ∃ i, rm_B M o i j q.2 ∧ rm_cd M o i0 r i else if q.1 = 29 ∨ q.1 = 30 then ∃ i, rm_B M o i (j - 1) q.2 ∧ am_gt M 225 (j - 1) = q.1 ∧ am_gt M 228 (r.length : Int) = j - 1 ∧ rm_cd M o i0 r i else rm_cd M o i0 r j
theorem rm_pm_f {M M' : am_M} : ∀ {l : rm_L}, rm_pm M l → (∀ k, k < (l.length : Int) → am_gt M' 227 k = am_gt M 227 k ∧ am_gt M' 228 k = am_gt M 228 k) → rm_pm M' l
  | [], _, _ => trivial
  | q :: r, h, hk => by
    obtain ⟨h1, h2, h3, h4⟩ := h
    have e := hk (r.length : Int) (by simp only [List.length_cons]; omega)
    exact ⟨e.1.trans h1, h2, by rw [e.2]; exact h3, rm_pm_f h4 (fun k hk' => hk k (by simp only [List.length_cons]; omega))⟩
theorem rm_cd_le {M : am_M} {o i0 : Int} : ∀ {l : rm_L} {j : Int}, rm_cd M o i0 l j → i0 ≤ j
  | [], j, h => by have : j = i0 := h; omega
  | q :: r, j, h => by
    simp only [rm_cd] at h
    split at h
    · obtain ⟨i, h1, h2⟩ := h
      have := rm_cd_le h2; have := rm_B_lt h1; omega
    · split at h
      · obtain ⟨i, h1, -, -, h2⟩ := h
        have := rm_cd_le h2; have := rm_B_lt h1; omega
      · exact rm_cd_le h
theorem rm_cd_f {M M' : am_M} {o i0 : Int} : ∀ {l : rm_L} {j : Int}, rm_cd M o i0 l j → (∀ k, i0 ≤ k → k < j → am_gt M' 225 k = am_gt M 225 k ∧ am_gt M' 226 k = am_gt M 226 k) → (∀ k, k < (l.length : Int) → am_gt M' 228 k = am_gt M 228 k) → rm_cd M' o i0 l j
  | [], j, h, _, _ => h
  | q :: r, j, h, hc, hp => by
    have hp' : ∀ k, k < (r.length : Int) → am_gt M' 228 k = am_gt M 228 k := fun k hk => hp k (by simp only [List.length_cons]; omega)
    simp only [rm_cd] at h ⊢
    split at h
    · rename_i hq
      rw [if_pos hq]
      obtain ⟨i, h1, h2⟩ := h
      have l1 := rm_cd_le h2
      have l2 := rm_B_lt h1
      exact ⟨i, rm_B_c h1 (fun k a b => hc k (by omega) b), rm_cd_f h2 (fun k a b => hc k a (by omega)) hp'⟩
    · rename_i hq
      rw [if_neg hq]
      split at h
      · rename_i hq2
        rw [if_pos hq2]
        obtain ⟨i, h1, h3, h4, h2⟩ := h
        have l1 := rm_cd_le h2
        have l2 := rm_B_lt h1
        exact ⟨i, rm_B_c h1 (fun k a b => hc k (by omega) (by omega)), (hc (j - 1) (by omega) (by omega)).1.trans h3, (hp _ (by simp only [List.length_cons]; omega)).trans h4, rm_cd_f h2 (fun k a b => hc k a (by omega)) hp'⟩
      · rename_i hq2
        rw [if_neg hq2]
        exact rm_cd_f h hc hp'
abbrev rm_xb : nm_Rg := [(214, 14, 20), (214, 23, 24), (214, 26, 27), (214, 29, 31), (225, 0, 400), (226, 0, 400), (227, 0, 400), (228, 0, 400)]
abbrev rm_xg : nm_Rg := [(214, 14, 18), (214, 23, 24), (214, 26, 27), (214, 29, 31), (225, 0, 400), (226, 0, 400), (227, 0, 400), (228, 0, 400)]
/-- the reference's reader: at a token, with n parts and cl steps of code -/
def rm_st (M : am_M) (T : tk_T) (o s n cl : Int) : Prop := nm_Lay M ∧ rm_tp M T ∧ rm_tk M T s ∧ am_gt M 214 20 = o ∧ am_gt M 214 26 = n ∧ am_gt M 214 23 = cl ∧ am_gt M 214 19 = 0 ∧ 0 ≤ s ∧ s ≤ T.2 ∧ 0 ≤ n ∧ n ≤ 50 ∧ 0 ≤ cl
/-- its pile, with the code up to i -/
def rm_P (M : am_M) (o i0 s cl : Int) (l : rm_L) (i : Int) : Prop := rm_pm M l ∧ am_gt M 214 29 = (l.length : Int) ∧ am_gt M 214 30 = rm_nb l ∧ rm_cd M o i0 l i ∧ cl + rm_w l ≤ s ∧ (l.length : Int) ≤ s ∧ 0 ≤ i0
def rm_mv (M M' : am_M) (i0 : Int) : Prop := nm_Fr rm_xg M M' ∧ ∀ k, 0 ≤ k → k < i0 → am_gt M' 225 k = am_gt M 225 k ∧ am_gt M' 226 k = am_gt M 226 k
theorem rm_mv_r (M : am_M) (i0 : Int) : rm_mv M M i0 := ⟨nm_Fg_refl _ _, fun _ _ _ => ⟨rfl, rfl⟩⟩
theorem rm_mv_t {M M1 M2 : am_M} {i0 : Int} (h : rm_mv M M1 i0) (h1 : rm_mv M1 M2 i0) : rm_mv M M2 i0 := ⟨nm_Fr_trans h.1 h1.1, fun k a b => ⟨(h1.2 k a b).1.trans (h.2 k a b).1, (h1.2 k a b).2.trans (h.2 k a b).2⟩⟩
theorem rm_lay {M M' : am_M} (hL : nm_Lay M) (F : nm_Fr rm_xg M M') : nm_Lay M' := nm_Lay_fr hL F (by decide +kernel)
theorem rm_tp_f {M M' : am_M} {T : tk_T} (hL : nm_Lay M) (F : nm_Fr rm_xg M M') (h : rm_tp M T) : rm_tp M' T := ⟨(nm_gt_frd (g := [(214, 13, 14)]) F hL (by decide) (by decide) (by decide)).trans h.1, fun i a b => (nm_gt_frn F hL (by decide) (by decide)).trans (h.2 i a b)⟩
theorem rm_o_f {M M' : am_M} (hL : nm_Lay M) (F : nm_Fr rm_xg M M') : am_gt M' 214 20 = am_gt M 214 20 := nm_gt_frd (g := [(214, 20, 21)]) F hL (by decide) (by decide) (by decide)
/-- tokens alone changed: all else stays -/
theorem rm_sg_k {M M' : am_M} (hL : nm_Lay M) (F : nm_Fr rm_sg M M') : nm_Fr rm_xg M M' ∧ (∀ a i, a = 225 ∨ a = 226 ∨ a = 227 ∨ a = 228 → am_gt M' a i = am_gt M a i) ∧ am_gt M' 214 19 = am_gt M 214 19 ∧ am_gt M' 214 18 = am_gt M 214 18 ∧ am_gt M' 214 23 = am_gt M 214 23 ∧ am_gt M' 214 26 = am_gt M 214 26 ∧ am_gt M' 214 29 = am_gt M 214 29 ∧ am_gt M' 214 30 = am_gt M 214 30 := by
  refine ⟨nm_Fr_sub F (by decide), fun a i ha => ?_, nm_gt_frd (g := [(214, 19, 20)]) F hL (by decide) (by decide) (by decide), nm_gt_frd (g := [(214, 18, 19)]) F hL (by decide) (by decide) (by decide), nm_gt_frd (g := [(214, 23, 24)]) F hL (by decide) (by decide) (by decide), nm_gt_frd (g := [(214, 26, 27)]) F hL (by decide) (by decide) (by decide), nm_gt_frd (g := [(214, 29, 30)]) F hL (by decide) (by decide) (by decide), nm_gt_frd (g := [(214, 30, 31)]) F hL (by decide) (by decide) (by decide)⟩
  rcases ha with rfl | rfl | rfl | rfl <;> exact nm_gt_frn F hL (by decide) (by decide)
theorem rm_st_n {M M' : am_M} {T : tk_T} {o s n cl s' : Int} (h : rm_st M T o s n cl) (F : nm_Fr rm_sg M M') (hk : rm_tk M' T s') (h0 : 0 ≤ s') (h1 : s' ≤ T.2) : rm_st M' T o s' n cl := by
  obtain ⟨hL, hP, hS, g20, g26, g23, g19, s0, s1, n0, n5, c0⟩ := h
  obtain ⟨F', k1, k2, k3, k4, k5, k6, k7⟩ := rm_sg_k hL F
  exact ⟨rm_lay hL F', rm_tp_f hL F' hP, hk, (rm_o_f hL F').trans g20, k5.trans g26, k4.trans g23, k2.trans g19, h0, h1, n0, n5, c0⟩
theorem rm_P_n {M M' : am_M} {o i0 s s' cl i : Int} {l : rm_L} (hL : nm_Lay M) (h : rm_P M o i0 s cl l i) (F : nm_Fr rm_sg M M') (hs : s ≤ s') : rm_P M' o i0 s' cl l i := by
  obtain ⟨F', k1, k2, k3, k4, k5, k6, k7⟩ := rm_sg_k hL F
  obtain ⟨p1, p2, p3, p4, p5, p6, p7⟩ := h
  exact ⟨rm_pm_f p1 (fun k _ => ⟨k1 _ _ (.inr (.inr (.inl rfl))), k1 _ _ (.inr (.inr (.inr rfl)))⟩), k6.trans p2, k7.trans p3, rm_cd_f p4 (fun k _ _ => ⟨k1 _ _ (.inl rfl), k1 _ _ (.inr (.inl rfl))⟩) (fun k _ => k1 _ _ (.inr (.inr (.inr rfl)))), by omega, by omega, p7⟩
theorem rm_B_n {M M' : am_M} {o i j : Int} {f : rd_F} (hL : nm_Lay M) (h : rm_B M o i j f) (F : nm_Fr rm_sg M M') : rm_B M' o i j f := by
  obtain ⟨F', k1, -⟩ := rm_sg_k hL F
  exact rm_B_c h (fun k _ _ => ⟨k1 _ _ (.inl rfl), k1 _ _ (.inr (.inl rfl))⟩)
theorem rm_mv_n {M M' : am_M} {i0 : Int} (hL : nm_Lay M) (F : nm_Fr rm_sg M M') : rm_mv M M' i0 := by
  obtain ⟨F', k1, -⟩ := rm_sg_k hL F
  exact ⟨F', fun k _ _ => ⟨k1 _ _ (.inl rfl), k1 _ _ (.inr (.inl rfl))⟩⟩
theorem rm_184 {d : Nat} {op : Int} {M : am_M} {Q : List am_V → am_M → Prop} (hL : nm_Lay M) (hQ : Q [(0, rm_bd op)] M) : am_CL d 184 [(0, op)] M Q := by
  unfold rm_bd at hQ
  refine h_184_0 hL ⟨fun h => ⟨fun h2 => ⟨fun h3 => ⟨fun h4 => ⟨fun h5 => ⟨fun h6 => ?_, fun h6 => ?_⟩, fun h5 => ?_⟩, fun h4 => ?_⟩, fun h3 => ?_⟩, fun h2 => ?_⟩, fun h => ?_⟩
  · rw [if_neg (by omega), if_neg h2, if_neg h3, if_neg h4, if_neg (by omega), if_neg (by omega)] at hQ; exact hQ
  · rw [if_neg (by omega), if_neg h2, if_neg h3, if_neg h4, if_neg (by omega), if_pos (by omega)] at hQ; exact hQ
  · rw [if_neg (by omega), if_neg h2, if_neg h3, if_neg h4, if_pos (by omega)] at hQ; exact hQ
  · rw [if_neg (by omega), if_neg h2, if_neg h3, if_pos (by omega)] at hQ; exact hQ
  · rw [if_neg (by omega), if_neg h2, if_pos (by omega)] at hQ; exact hQ
  · rw [if_neg (by omega), if_pos (by omega)] at hQ; exact hQ
  · rw [if_pos (by omega)] at hQ; exact hQ
abbrev rm_eg : nm_Rg := [(214, 23, 24), (225, 0, 400), (226, 0, 400)]
theorem rm_182 {d : Nat} {cl op ar : Int} {M : am_M} {Q : List am_V → am_M → Prop} (hL : nm_Lay M) (g23 : am_gt M 214 23 = cl) (c0 : 0 ≤ cl) (c4 : cl < 400) (hQ : ∀ M', nm_Fr rm_eg M M' → am_gt M' 214 23 = cl + 1 → (∀ k, k ≠ cl → am_gt M' 225 k = am_gt M 225 k ∧ am_gt M' 226 k = am_gt M 226 k) → am_gt M' 225 cl = op → am_gt M' 226 cl = ar → Q [] M') : am_CL d 182 [(2, 214), (0, op), (0, ar)] M Q := by
  have m1 : ((225, 0, 400) : Int × Int × Int) ∈ rm_eg := by simp only [List.mem_cons, true_or, or_true]
  have m2 : ((226, 0, 400) : Int × Int × Int) ∈ rm_eg := by simp only [List.mem_cons, true_or, or_true]
  have F1 : nm_Fr rm_eg M (am_st M 225 cl op) := nm_Fst (nm_Fg_refl _ _) m1 c0 c4
  have F2 : nm_Fr rm_eg M (am_st (am_st M 225 cl op) 226 cl ar) := nm_Fst F1 m2 c0 c4
  have F3 : nm_Fr rm_eg M (am_st (am_st (am_st M 225 cl op) 226 cl ar) 214 23 (cl + 1)) := nm_Fr_st F2 (by decide)
  refine h_182_0 hL ?_
  rw [g23]
  refine ⟨c0, c4, h_182_10 (nm_Lay_fr hL F1 (by decide +kernel)) ?_⟩
  have g23' : am_gt (am_st M 225 cl op) 214 23 = cl := by rw [nm_gt_st, if_neg (fun q => absurd q.1 (by decide))]; exact g23
  rw [g23', am_w_id (by omega) (by omega)]
  refine ⟨c0, c4, hQ _ F3 (by rw [nm_gt_st, if_pos ⟨rfl, rfl⟩]) (fun k hk => ⟨?_, ?_⟩) ?_ ?_⟩
  · rw [nm_gt_st, if_neg (fun q => absurd q.1 (by decide)), nm_gt_st, if_neg (fun q => absurd q.1 (by decide)), nm_gt_st, if_neg (fun q => hk q.2)]
  · rw [nm_gt_st, if_neg (fun q => absurd q.1 (by decide)), nm_gt_st, if_neg (fun q => hk q.2), nm_gt_st, if_neg (fun q => absurd q.1 (by decide))]
  · rw [nm_gt_st, if_neg (fun q => absurd q.1 (by decide)), nm_gt_st, if_neg (fun q => absurd q.1 (by decide)), nm_gt_st, if_pos ⟨rfl, rfl⟩]
  · rw [nm_gt_st, if_neg (fun q => absurd q.1 (by decide)), nm_gt_st, if_pos ⟨rfl, rfl⟩]
abbrev rm_ug : nm_Rg := [(214, 29, 30), (227, 0, 400), (228, 0, 400)]
theorem rm_183 {d : Nat} {n op at1 : Int} {M : am_M} {Q : List am_V → am_M → Prop} (hL : nm_Lay M) (g29 : am_gt M 214 29 = n) (c0 : 0 ≤ n) (c4 : n < 400) (hQ : ∀ M', nm_Fr rm_ug M M' → am_gt M' 214 29 = n + 1 → (∀ k, k ≠ n → am_gt M' 227 k = am_gt M 227 k ∧ am_gt M' 228 k = am_gt M 228 k) → am_gt M' 227 n = op → am_gt M' 228 n = at1 → Q [] M') : am_CL d 183 [(2, 214), (0, op), (0, at1)] M Q := by
  have m1 : ((227, 0, 400) : Int × Int × Int) ∈ rm_ug := by simp only [List.mem_cons, true_or, or_true]
  have m2 : ((228, 0, 400) : Int × Int × Int) ∈ rm_ug := by simp only [List.mem_cons, true_or, or_true]
  have F1 : nm_Fr rm_ug M (am_st M 227 n op) := nm_Fst (nm_Fg_refl _ _) m1 c0 c4
  have F2 : nm_Fr rm_ug M (am_st (am_st M 227 n op) 228 n at1) := nm_Fst F1 m2 c0 c4
  have F3 : nm_Fr rm_ug M (am_st (am_st (am_st M 227 n op) 228 n at1) 214 29 (n + 1)) := nm_Fr_st F2 (by decide)
  refine h_183_0 hL ?_
  rw [g29]
  refine ⟨c0, c4, h_183_10 (nm_Lay_fr hL F1 (by decide +kernel)) ?_⟩
  have g29' : am_gt (am_st M 227 n op) 214 29 = n := by rw [nm_gt_st, if_neg (fun q => absurd q.1 (by decide))]; exact g29
  rw [g29', am_w_id (by omega) (by omega)]
  refine ⟨c0, c4, hQ _ F3 (by rw [nm_gt_st, if_pos ⟨rfl, rfl⟩]) (fun k hk => ⟨?_, ?_⟩) ?_ ?_⟩
  · rw [nm_gt_st, if_neg (fun q => absurd q.1 (by decide)), nm_gt_st, if_neg (fun q => absurd q.1 (by decide)), nm_gt_st, if_neg (fun q => hk q.2)]
  · rw [nm_gt_st, if_neg (fun q => absurd q.1 (by decide)), nm_gt_st, if_neg (fun q => hk q.2), nm_gt_st, if_neg (fun q => absurd q.1 (by decide))]
  · rw [nm_gt_st, if_neg (fun q => absurd q.1 (by decide)), nm_gt_st, if_neg (fun q => absurd q.1 (by decide)), nm_gt_st, if_pos ⟨rfl, rfl⟩]
  · rw [nm_gt_st, if_neg (fun q => absurd q.1 (by decide)), nm_gt_st, if_pos ⟨rfl, rfl⟩]
abbrev rm_gg : nm_Rg := [(214, 23, 24), (214, 29, 30), (225, 0, 400), (226, 0, 400)]
/-- settle, whatever the code is: it comes to its end -/
theorem rm_185x {d : Nat} {least : Int} {Q : List am_V → am_M → Prop} (hd : 1 ≤ d) (hl1 : 1 ≤ least) : ∀ (l : rm_L) (M : am_M) (cl : Int), nm_Lay M → rm_pm M l → am_gt M 214 29 = (l.length : Int) → am_gt M 214 23 = cl → 0 ≤ cl → cl + rm_w l ≤ 400 → l.length ≤ 400 → (∀ M', nm_Fr rm_gg M M' → Q [] M') → ((am_gt M 214 29 ≤ 0 → Q [] M) ∧ (¬ (am_gt M 214 29 ≤ 0) → (0 : Int) ≤ am_w ((am_gt M 214 29) - 1) ∧ am_w ((am_gt M 214 29) - 1) < 400 ∧ 0 < d ∧ am_CL (d - 1) 184 [(0, am_gt M 227 (am_w ((am_gt M 214 29) - 1)))] M (fun r M' => am_WP d am_c185 21 [(2, 214), (0, least)] (r ++ []) M' Q)))
  | [], M, cl, hL, hp, g29, g23, c0, hw, hl, hQ => by
    rw [g29]
    exact ⟨fun _ => hQ M (nm_Fg_refl _ _), fun h => absurd (by simp) h⟩
  | q :: r, M, cl, hL, hp, g29, g23, c0, hw, hl, hQ => by
    obtain ⟨h1, h2, h3, h4⟩ := hp
    simp only [List.length_cons] at g29 hl
    simp only [rm_w] at hw
    have w0 := rm_w0 r
    have e1 : am_w (((r.length + 1 : Nat) : Int) - 1) = (r.length : Int) := by rw [am_w_id (by omega) (by omega)]; omega
    rw [g29, e1]
    refine ⟨fun h => by omega, fun _ => ⟨by omega, by omega, hd, rm_184 hL ?_⟩⟩
    refine h_185_21 hL ⟨fun _ => hQ M (nm_Fg_refl _ _), fun hb => ?_⟩
    rw [g29, e1, h1, g23]
    have F1 : nm_Fr rm_gg M (am_st M 214 29 (r.length : Int)) := nm_Fr_st (nm_Fg_refl _ _) (by decide)
    have jmp : q.1 = 29 ∨ q.1 = 30 → (0 : Int) ≤ am_gt M 228 (r.length : Int) ∧ am_gt M 228 (r.length : Int) < 400 ∧ ((((r.length : Int)) ≤ 0 → Q [] (am_st (am_st M 214 29 (r.length : Int)) 226 (am_gt M 228 (r.length : Int)) cl)) ∧ (¬ ((r.length : Int) ≤ 0) → (0 : Int) ≤ am_w ((r.length : Int) - 1) ∧ am_w ((r.length : Int) - 1) < 400 ∧ 0 < d ∧ am_CL (d - 1) 184 [(0, am_gt M 227 (am_w ((r.length : Int) - 1)))] (am_st (am_st M 214 29 (r.length : Int)) 226 (am_gt M 228 (r.length : Int)) cl) (fun r M' => am_WP d am_c185 21 [(2, 214), (0, least)] (r ++ []) M' Q))) := by
      intro hq
      obtain ⟨a1, a2⟩ := h3 hq
      have F2 : nm_Fr rm_gg M (am_st (am_st M 214 29 (r.length : Int)) 226 (am_gt M 228 (r.length : Int)) cl) := nm_Fst F1 (lo := 0) (hi := 400) (by simp only [List.mem_cons, true_or, or_true]) a1 a2
      have ih := rm_185x (least := least) (Q := Q) hd hl1 r (am_st (am_st M 214 29 (r.length : Int)) 226 (am_gt M 228 (r.length : Int)) cl) cl (nm_Lay_fr hL F2 (by decide +kernel)) (rm_pm_f h4 (fun k _ => ⟨by rw [nm_gt_st, if_neg (fun q => absurd q.1 (by decide)), nm_gt_st, if_neg (fun q => absurd q.1 (by decide))], by rw [nm_gt_st, if_neg (fun q => absurd q.1 (by decide)), nm_gt_st, if_neg (fun q => absurd q.1 (by decide))]⟩)) (by rw [nm_gt_st, if_neg (fun q => absurd q.1 (by decide)), nm_gt_st, if_pos ⟨rfl, rfl⟩]) (by rw [nm_gt_st, if_neg (fun q => absurd q.1 (by decide)), nm_gt_st, if_neg (fun q => absurd q.2 (by decide))]; exact g23) c0 (by split at hw <;> omega) (by omega) (fun M' F' => hQ M' (nm_Fr_trans F2 F'))
      rw [show am_gt (am_st (am_st M 214 29 (r.length : Int)) 226 (am_gt M 228 (r.length : Int)) cl) 214 29 = (r.length : Int) by rw [nm_gt_st, if_neg (fun q => absurd q.1 (by decide)), nm_gt_st, if_pos ⟨rfl, rfl⟩], show am_gt (am_st (am_st M 214 29 (r.length : Int)) 226 (am_gt M 228 (r.length : Int)) cl) 227 (am_w ((r.length : Int) - 1)) = am_gt M 227 (am_w ((r.length : Int) - 1)) by rw [nm_gt_st, if_neg (fun q => absurd q.1 (by decide)), nm_gt_st, if_neg (fun q => absurd q.1 (by decide))]] at ih
      exact ⟨a1, a2, ih⟩
    refine ⟨by omega, by omega, fun h29 => jmp (.inl h29), fun h29 => ⟨fun h30 => ⟨hd, ?_⟩, fun h30 => jmp (.inr (by omega))⟩⟩
    have hb' : q.1 ≤ 28 ∨ 31 ≤ q.1 := by omega
    have L1 := nm_Lay_fr hL F1 (by decide +kernel)
    by_cases hbr : 31 ≤ q.1
    · rw [h1] at hb
      exact absurd (by unfold rm_bd; rw [if_pos hbr]; omega) hb
    · rw [if_pos (by omega)] at hw
      refine rm_182 (cl := cl) L1 (by rw [nm_gt_st, if_neg (fun q => absurd q.2 (by decide))]; exact g23) c0 (by omega) (fun M2 F2 a23 ak ao aa => ?_)
      have L2 := nm_Lay_fr L1 F2 (by decide +kernel)
      have F12 : nm_Fr rm_gg M M2 := nm_Fr_trans F1 (nm_Fr_sub F2 (by decide))
      have k29 : am_gt M2 214 29 = (r.length : Int) := by
        rw [nm_gt_frd (g := [(214, 29, 30)]) F2 L1 (by decide) (by decide) (by decide), nm_gt_st, if_pos ⟨rfl, rfl⟩]
      have kp : ∀ k, am_gt M2 227 k = am_gt M 227 k ∧ am_gt M2 228 k = am_gt M 228 k := fun k => ⟨by rw [nm_gt_frn F2 L1 (by decide) (by decide), nm_gt_st, if_neg (fun q => absurd q.1 (by decide))], by rw [nm_gt_frn F2 L1 (by decide) (by decide), nm_gt_st, if_neg (fun q => absurd q.1 (by decide))]⟩
      exact h_185_98 L2 (rm_185x hd hl1 r M2 (cl + 1) L2 (rm_pm_f h4 (fun k _ => kp k)) k29 a23 (by omega) (by omega) (by omega) (fun M' F' => hQ M' (nm_Fr_trans F12 F')))

theorem rm_nb_k {q : Int × rd_F} {r : rm_L} (h : q.1 ≤ 30) : rm_nb (q :: r) = rm_nb r := by simp only [rm_nb]; rw [if_neg (by omega)]; omega
/-- settle, where the code tells something -/
theorem rm_185 {d : Nat} {T : tk_T} {o i0 s c n least : Int} {Q : List am_V → am_M → Prop} (hd : 1 ≤ d) (hl1 : 1 ≤ least) (hs4 : c ≤ 400) (ls : rm_L) (ht : ∀ q r, ls = q :: r → rm_bd q.1 < least) : ∀ (pend : rm_L) (M : am_M) (cl i : Int) (cur : rd_F), (∀ q ∈ pend, least ≤ rm_bd q.1) → rm_s0 pend cur → rm_st M T o s n cl → rm_P M o i0 c cl (pend ++ ls) i → rm_B M o i cl cur → (∀ M' cl' i', rm_mv M M' i0 → rm_st M' T o s n cl' → rm_P M' o i0 c cl' ls i' → rm_B M' o i' cl' (rm_fd pend cur) → Q [] M') → ((am_gt M 214 29 ≤ 0 → Q [] M) ∧ (¬ (am_gt M 214 29 ≤ 0) → (0 : Int) ≤ am_w ((am_gt M 214 29) - 1) ∧ am_w ((am_gt M 214 29) - 1) < 400 ∧ 0 < d ∧ am_CL (d - 1) 184 [(0, am_gt M 227 (am_w ((am_gt M 214 29) - 1)))] M (fun r M' => am_WP d am_c185 21 [(2, 214), (0, least)] (r ++ []) M' Q)))
  | [], M, cl, i, cur, hp, h01, hst, hP, hB, hQ => by
    have fin : Q [] M := hQ M cl i (rm_mv_r _ _) hst hP hB
    refine ⟨fun _ => fin, fun hne => ?_⟩
    obtain ⟨p1, p2, p3, p4, p5, p6, p7⟩ := hP
    cases ls with
    | nil => exact absurd (by rw [p2]; simp) hne
    | cons q r =>
      simp only [List.nil_append, List.length_cons] at p2 p6
      rw [p2, show am_w (((r.length + 1 : Nat) : Int) - 1) = (r.length : Int) by rw [am_w_id (by omega) (by omega)]; omega]
      refine ⟨by omega, by omega, hd, rm_184 hst.1 (h_185_21 hst.1 ⟨fun _ => fin, fun hb => ?_⟩)⟩
      have := ht q r rfl
      have h1 : am_gt M 227 (r.length : Int) = q.1 := p1.1
      rw [h1] at hb
      exact absurd this hb
  | q :: r, M, cl, i, cur, hp, h01, hst, hP, hB, hQ => by
    have hst' := hst
    obtain ⟨hL, hTP, hS, g20, g26, g23, g19, s0, s1, n0, n5, c0⟩ := hst'
    obtain ⟨p1, p2, p3, p4, p5, p6, p7⟩ := hP
    rw [List.cons_append] at p1 p2 p3 p4 p5 p6
    obtain ⟨h1, h2, h3, h4⟩ := p1
    simp only [List.length_cons] at p2 p6
    have hq := hp q List.mem_cons_self
    have hr : ∀ q' ∈ r, least ≤ rm_bd q'.1 := fun q' hq' => hp q' (List.mem_cons_of_mem _ hq')
    have hq30 : q.1 ≤ 30 := by
      by_cases h : q.1 ≤ 30
      · exact h
      · unfold rm_bd at hq; rw [if_pos (by omega)] at hq; omega
    rw [rm_nb_k hq30] at p3
    simp only [rm_w] at p5
    have w0 := rm_w0 (r ++ ls)
    have ltB := rm_B_lt hB
    have e1 : am_w ((((r ++ ls).length + 1 : Nat) : Int) - 1) = ((r ++ ls).length : Int) := by rw [am_w_id (by omega) (by omega)]; omega
    rw [p2, e1]
    refine ⟨fun h => by omega, fun _ => ⟨by omega, by omega, hd, rm_184 hL ?_⟩⟩
    refine h_185_21 hL ⟨fun hb => absurd hq (by rw [h1] at hb; omega), fun hb => ?_⟩
    rw [p2, e1, h1, g23]
    have sp : ∀ v, nm_Fr rm_xg M (am_st M 214 29 v) := fun v => nm_Fr_st (nm_Fg_refl _ _) (by decide)
    have L1 := rm_lay hL (sp ((r ++ ls).length : Int))
    -- "and", "or": the jump leads to here
    have jmp : q.1 = 29 ∨ q.1 = 30 → (0 : Int) ≤ am_gt M 228 ((r ++ ls).length : Int) ∧ am_gt M 228 ((r ++ ls).length : Int) < 400 ∧ ((((r ++ ls).length : Int) ≤ 0 → Q [] (am_st (am_st M 214 29 ((r ++ ls).length : Int)) 226 (am_gt M 228 ((r ++ ls).length : Int)) cl)) ∧ (¬ (((r ++ ls).length : Int) ≤ 0) → (0 : Int) ≤ am_w (((r ++ ls).length : Int) - 1) ∧ am_w (((r ++ ls).length : Int) - 1) < 400 ∧ 0 < d ∧ am_CL (d - 1) 184 [(0, am_gt M 227 (am_w (((r ++ ls).length : Int) - 1)))] (am_st (am_st M 214 29 ((r ++ ls).length : Int)) 226 (am_gt M 228 ((r ++ ls).length : Int)) cl) (fun r M' => am_WP d am_c185 21 [(2, 214), (0, least)] (r ++ []) M' Q))) := by
      intro hj
      obtain ⟨a1, a2⟩ := h3 hj
      simp only [rm_cd] at p4
      rw [if_neg (by omega), if_pos hj] at p4
      obtain ⟨i', b1, b2, b3, b4⟩ := p4
      have le4 := rm_cd_le b4
      have lt1 := rm_B_lt b1
      have F2 : nm_Fr rm_xg M (am_st (am_st M 214 29 ((r ++ ls).length : Int)) 226 (am_gt M 228 ((r ++ ls).length : Int)) cl) := nm_Fst (sp _) (lo := 0) (hi := 400) (by simp only [List.mem_cons, true_or, or_true]) a1 a2
      have g : ∀ k, k ≠ 29 → am_gt (am_st (am_st M 214 29 ((r ++ ls).length : Int)) 226 (am_gt M 228 ((r ++ ls).length : Int)) cl) 214 k = am_gt M 214 k := fun k hk => by rw [nm_gt_st, if_neg (fun q => absurd q.1 (by decide)), nm_gt_st, if_neg (fun q => hk q.2)]
      have g9 : am_gt (am_st (am_st M 214 29 ((r ++ ls).length : Int)) 226 (am_gt M 228 ((r ++ ls).length : Int)) cl) 214 29 = ((r ++ ls).length : Int) := by rw [nm_gt_st, if_neg (fun q => absurd q.1 (by decide)), nm_gt_st, if_pos ⟨rfl, rfl⟩]
      have ga : ∀ a k, a = 225 ∨ a = 227 ∨ a = 228 → am_gt (am_st (am_st M 214 29 ((r ++ ls).length : Int)) 226 (am_gt M 228 ((r ++ ls).length : Int)) cl) a k = am_gt M a k := fun a k ha => by rw [nm_gt_st, if_neg (fun q => by omega), nm_gt_st, if_neg (fun q => by omega)]
      have g6 : ∀ k, k ≠ i - 1 → am_gt (am_st (am_st M 214 29 ((r ++ ls).length : Int)) 226 (am_gt M 228 ((r ++ ls).length : Int)) cl) 226 k = am_gt M 226 k := fun k hk => by rw [nm_gt_st, if_neg (fun q => hk (q.2.trans b3)), nm_gt_st, if_neg (fun q => absurd q.1 (by decide))]
      have gi : am_gt (am_st (am_st M 214 29 ((r ++ ls).length : Int)) 226 (am_gt M 228 ((r ++ ls).length : Int)) cl) 226 (i - 1) = cl := by rw [nm_gt_st, if_pos ⟨rfl, b3.symm⟩]
      have st2 : rm_st (am_st (am_st M 214 29 ((r ++ ls).length : Int)) 226 (am_gt M 228 ((r ++ ls).length : Int)) cl) T o s n cl := ⟨rm_lay hL F2, rm_tp_f hL F2 hTP, ⟨(g 14 (by decide)).trans hS.1, (g 15 (by decide)).trans hS.2.1, (g 16 (by decide)).trans hS.2.2.1, (g 17 (by decide)).trans hS.2.2.2⟩, (g 20 (by decide)).trans g20, (g 26 (by decide)).trans g26, (g 23 (by decide)).trans g23, (g 19 (by decide)).trans g19, s0, s1, n0, n5, c0⟩
      have P2 : rm_P (am_st (am_st M 214 29 ((r ++ ls).length : Int)) 226 (am_gt M 228 ((r ++ ls).length : Int)) cl) o i0 c cl (r ++ ls) i' := ⟨rm_pm_f h4 (fun k _ => ⟨ga 227 k (.inr (.inl rfl)), ga 228 k (.inr (.inr rfl))⟩), g9, (g 30 (by decide)).trans p3, rm_cd_f b4 (fun k x y => ⟨ga 225 k (.inl rfl), g6 k (by omega)⟩) (fun k _ => ga 228 k (.inr (.inr rfl))), by split at p5 <;> omega, by omega, p7⟩
      have B2 : rm_B (am_st (am_st M 214 29 ((r ++ ls).length : Int)) 226 (am_gt M 228 ((r ++ ls).length : Int)) cl) o i' cl (rm_ap q.1 q.2 cur) := by
        have c1 := rm_B_c b1 (M' := am_st (am_st M 214 29 ((r ++ ls).length : Int)) 226 (am_gt M 228 ((r ++ ls).length : Int)) cl) (fun k x y => ⟨ga 225 k (.inl rfl), g6 k (by omega)⟩)
        have c2 := rm_B_c hB (M' := am_st (am_st M 214 29 ((r ++ ls).length : Int)) 226 (am_gt M 228 ((r ++ ls).length : Int)) cl) (fun k x y => ⟨ga 225 k (.inl rfl), g6 k (by omega)⟩)
        unfold rm_B at c1 c2 ⊢
        have c2' := nm_MB_h c2 (ht' := cl - i' ) (by omega)
        rw [show i = i - 1 + 1 by omega] at c2'
        unfold rm_ap
        rw [if_neg (by omega), if_neg (by omega)]
        rcases hj with hj | hj
        · rw [if_pos hj]
          exact nm_MB_h (nm_mb_jmp 29 0 (.inr ⟨rfl, rfl⟩) ((ga 225 _ (.inl rfl)).trans (b2.trans hj)) gi c1 c2') (by omega)
        · rw [if_neg (by omega)]
          exact nm_MB_h (nm_mb_jmp 30 1 (.inl ⟨rfl, rfl⟩) ((ga 225 _ (.inl rfl)).trans (b2.trans hj)) gi c1 c2') (by omega)
      have mv2 : rm_mv M (am_st (am_st M 214 29 ((r ++ ls).length : Int)) 226 (am_gt M 228 ((r ++ ls).length : Int)) cl) i0 := ⟨F2, fun k x y => ⟨ga 225 k (.inl rfl), g6 k (by omega)⟩⟩
      have ih := rm_185 (d := d) (T := T) (o := o) (i0 := i0) (s := s) (c := c) (n := n) (least := least) (Q := Q) hd hl1 hs4 ls ht r _ cl i' _ hr h01.2 st2 P2 B2 (fun M' cl' i'' mv' st' P' B' => hQ M' cl' i'' (rm_mv_t mv2 mv') st' P' B')
      rw [g9, ga 227 _ (.inr (.inl rfl))] at ih
      exact ⟨a1, a2, ih⟩
    refine ⟨by omega, by omega, fun h29 => jmp (.inl h29), fun h29 => ⟨fun h30 => ⟨hd, ?_⟩, fun h30 => jmp (.inr (by omega))⟩⟩
    rw [if_pos (by omega)] at p5
    refine rm_182 (cl := cl) L1 (by rw [nm_gt_st, if_neg (fun q => absurd q.2 (by decide))]; exact g23) c0 (by omega) (fun M2 F2 a23 ak ao aa => ?_)
    have F2' : nm_Fr rm_xg M M2 := nm_Fr_trans (sp _) (nm_Fr_sub F2 (by decide))
    have k4 : ∀ k, k ≠ 23 → k ≠ 29 → am_gt M2 214 k = am_gt M 214 k := fun k hk hk2 => by
      rw [F2.2.2.2.2 214 k (by have := L1.2.2.1; omega) (by
        rw [Bool.eq_false_iff]; intro hi
        obtain ⟨p, hp', e1, e2, e3⟩ := nm_in_iff.mp hi
        simp only [List.mem_cons, List.not_mem_nil, or_false] at hp'
        rcases hp' with rfl | rfl | rfl <;> simp only at e1 e2 e3 <;> omega), nm_gt_st, if_neg (fun q => hk2 q.2)]
    have k29 : am_gt M2 214 29 = ((r ++ ls).length : Int) := by
      rw [nm_gt_frd (g := [(214, 29, 30)]) F2 L1 (by decide) (by decide) (by decide), nm_gt_st, if_pos ⟨rfl, rfl⟩]
    have kp : ∀ k, am_gt M2 227 k = am_gt M 227 k ∧ am_gt M2 228 k = am_gt M 228 k := fun k => ⟨by rw [nm_gt_frn F2 L1 (by decide) (by decide), nm_gt_st, if_neg (fun q => absurd q.1 (by decide))], by rw [nm_gt_frn F2 L1 (by decide) (by decide), nm_gt_st, if_neg (fun q => absurd q.1 (by decide))]⟩
    have kc : ∀ k, k ≠ cl → am_gt M2 225 k = am_gt M 225 k ∧ am_gt M2 226 k = am_gt M 226 k := fun k hk => ⟨by rw [(ak k hk).1, nm_gt_st, if_neg (fun q => absurd q.1 (by decide))], by rw [(ak k hk).2, nm_gt_st, if_neg (fun q => absurd q.1 (by decide))]⟩
    have st2 : rm_st M2 T o s n (cl + 1) := ⟨rm_lay hL F2', rm_tp_f hL F2' hTP, ⟨(k4 14 (by decide) (by decide)).trans hS.1, (k4 15 (by decide) (by decide)).trans hS.2.1, (k4 16 (by decide) (by decide)).trans hS.2.2.1, (k4 17 (by decide) (by decide)).trans hS.2.2.2⟩, (k4 20 (by decide) (by decide)).trans g20, (k4 26 (by decide) (by decide)).trans g26, a23, (k4 19 (by decide) (by decide)).trans g19, s0, s1, n0, n5, by omega⟩
    have le4 := rm_cd_le p4
    have rest : ∀ i', rm_cd M o i0 (r ++ ls) i' → i' ≤ i → rm_B M2 o i' (cl + 1) (rm_ap q.1 q.2 cur) → am_WP d am_c185 98 [(2, 214), (0, least)] [] M2 Q := by
      intro i' hcd hle hB2
      have lei := rm_cd_le hcd
      have P2 : rm_P M2 o i0 c (cl + 1) (r ++ ls) i' := ⟨rm_pm_f h4 (fun k _ => kp k), k29, (k4 30 (by decide) (by decide)).trans p3, rm_cd_f hcd (fun k x y => kc k (by omega)) (fun k _ => (kp k).2), by omega, by omega, p7⟩
      have mv2 : rm_mv M M2 i0 := ⟨F2', fun k x y => kc k (by omega)⟩
      exact h_185_98 st2.1 (rm_185 (d := d) (T := T) (o := o) (i0 := i0) (s := s) (c := c) (n := n) (least := least) (Q := Q) hd hl1 hs4 ls ht r M2 (cl + 1) i' _ hr h01.2 st2 P2 hB2 (fun M' cl' i'' mv' st' P' B' => hQ M' cl' i'' (rm_mv_t mv2 mv') st' P' B'))
    have cB := rm_B_c hB (M' := M2) (fun k x y => kc k (by omega))
    simp only [rm_cd] at p4
    by_cases h27 : q.1 ≤ 27
    · rw [if_pos h27] at p4
      obtain ⟨i', b1, b4⟩ := p4
      have le5 := rm_cd_le b4
      have lt1 := rm_B_lt b1
      refine rest i' b4 (by omega) ?_
      have c1 := rm_B_c b1 (M' := M2) (fun k x y => kc k (by omega))
      unfold rm_B at c1 cB ⊢
      unfold rm_ap; rw [if_pos h27]
      exact nm_MB_h (nm_mb_bin (q.1 - 14) (by omega) (ao.trans (by omega)) c1 cB) (by omega)
    · rw [if_neg h27, if_neg (by omega)] at p4
      have h28 : q.1 = 28 := by omega
      refine rest i p4 (Int.le_refl _) ?_
      unfold rm_B at cB ⊢
      unfold rm_ap; rw [if_neg h27, if_pos h28]
      exact nm_MB_h (nm_mb_not (h01.1 h28) (ao.trans h28) cB) (by omega)
theorem rm_pm_s {M : am_M} : ∀ {p s : rm_L}, rm_pm M (p ++ s) → rm_pm M s
  | [], _, h => h
  | _ :: p, _, h => rm_pm_s (p := p) h.2.2.2
theorem rm_186 {d : Nat} {l : rm_L} {M : am_M} {Q : List am_V → am_M → Prop} (hL : nm_Lay M) (hp : rm_pm M l) (g29 : am_gt M 214 29 = (l.length : Int)) (hl : l.length ≤ 400) (hQ : Q [(0, rm_in l)] M) : am_CL d 186 [(2, 214)] M Q := by
  have loop : ∀ (n : Nat) (pre suf : rm_L), pre.length = n → l = pre ++ suf → am_WP d am_c186 4 [(2, 214), (0, rm_in suf), (0, (suf.length : Int))] [] M Q := by
    intro n
    induction n with
    | zero =>
      intro pre suf hn he
      have : pre = [] := List.length_eq_zero_iff.mp hn
      subst this
      rw [List.nil_append] at he
      subst he
      exact h_186_4 hL ⟨fun _ => hQ, fun h => absurd (by rw [g29]; omega) h⟩
    | succ n ih =>
      intro pre suf hn he
      rcases List.eq_nil_or_concat pre with h | ⟨pre', a, h⟩
      · subst h; simp at hn
      · subst h
        have he' : l = pre' ++ (a :: suf) := by rw [he, List.concat_eq_append, List.append_assoc]; rfl
        have hps := rm_pm_s (p := pre') (by rw [← he']; exact hp)
        have ha : am_gt M 227 (suf.length : Int) = a.1 := hps.1
        have hlen : l.length = pre'.length + (suf.length + 1) := by rw [he']; simp
        have nx := ih pre' (a :: suf) (by simp at hn; omega) he'
        refine h_186_4 hL ⟨fun h => absurd h (by rw [g29]; omega), fun _ => ⟨by omega, by omega, ?_⟩⟩
        rw [ha, am_w_id (by omega) (by omega)]
        simp only [rm_in, List.length_cons] at nx
        rw [show ((suf.length + 1 : Nat) : Int) = (suf.length : Int) + 1 by omega] at nx
        refine ⟨fun h => ?_, fun h => ?_⟩
        · rw [if_neg (by omega)] at nx; exact nx
        · rw [if_pos (by omega)] at nx; exact nx
  exact h_186_0 hL (loop _ l [] rfl (by simp))
theorem rm_187 {d : Nat} {l : rm_L} {M : am_M} {Q : List am_V → am_M → Prop} (hd : 1 ≤ d) (hL : nm_Lay M) (hp : rm_pm M l) (g29 : am_gt M 214 29 = (l.length : Int)) (hl : l.length ≤ 400) (hQ : Q [(0, if rm_cp l = true then 1 else 0)] M) : am_CL d 187 [(2, 214)] M Q := by
  have loop : ∀ (l' : rm_L), rm_pm M l' → l'.length ≤ 400 → rm_cp l' = rm_cp l → am_WP d am_c187 7 [(2, 214), (0, (l'.length : Int) - 1)] [] M Q := by
    intro l'
    induction l' with
    | nil =>
      intro _ _ he
      refine h_187_7 hL ⟨fun _ => ⟨fun _ => ?_, fun h => absurd (by decide) h⟩, fun h => absurd (by decide) h⟩
      rw [← he] at hQ; exact hQ
    | cons q r ih =>
      intro hp' hl' he
      obtain ⟨h1, h2, h3, h4⟩ := hp'
      simp only [List.length_cons] at hl' ⊢
      rw [show ((r.length + 1 : Nat) : Int) - 1 = (r.length : Int) by omega]
      simp only [rm_cp] at he
      refine h_187_7 hL ⟨fun h => absurd h (by omega), fun _ => ⟨by omega, by omega, hd, nm_m142 hL ?_⟩⟩
      rw [h1]
      by_cases h24 : q.1 ≤ 24
      · rw [if_pos ⟨by omega, h24⟩]
        rw [if_pos h24] at he
        refine h_187_27 hL ⟨fun h => absurd h (by decide), fun _ => ?_⟩
        rw [am_w_id (by omega) (by omega)]
        exact ih h4 (by omega) he
      · rw [if_neg (by omega)]
        rw [if_neg h24] at he
        refine h_187_27 hL ⟨fun _ => ⟨fun h => absurd h (by omega), fun _ => ⟨by omega, by omega, hd, nm_m142 hL ?_⟩⟩, fun h => absurd rfl h⟩
        rw [h1]
        by_cases h27 : q.1 ≤ 27
        · rw [if_pos ⟨by omega, h27⟩]
          rw [decide_eq_true h27] at he
          rw [← he, if_pos rfl] at hQ
          exact h_187_56 hL ⟨fun h => absurd h (by decide), fun _ => hQ⟩
        · rw [if_neg (by omega)]
          rw [decide_eq_false h27] at he
          rw [← he, if_neg (by decide)] at hQ
          exact h_187_56 hL ⟨fun _ => hQ, fun h => absurd rfl h⟩
  refine h_187_0 hL ?_
  rw [g29, am_w_id (by omega) (by omega)]
  exact loop l hp hl rfl
