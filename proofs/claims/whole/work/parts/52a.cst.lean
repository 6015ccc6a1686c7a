/-! THE CLASS: ITS STATE, WHAT IT KEEPS UNDONE, ITS ANSWERS -/
def nm_up (S : Int → Int) (j v : Int) : Int → Int := fun k => if k = j then v else S k
theorem nm_up_eq (S : Int → Int) (j v : Int) : nm_up S j v j = v := if_pos rfl
theorem nm_up_ne {S : Int → Int} {j v k : Int} (h : k ≠ j) : nm_up S j v k = S k := if_neg h
theorem nm_st_ne {M : am_M} {a i v b j : Int} (h : b ≠ a) : am_gt (am_st M a i v) b j = am_gt M b j := by rw [nm_gt_st, if_neg (fun c => h c.1)]
theorem nm_st_nj {M : am_M} {a i v b j : Int} (h : j ≠ i) : am_gt (am_st M a i v) b j = am_gt M b j := by rw [nm_gt_st, if_neg (fun c => h c.2)]
theorem nm_st_eq {M : am_M} {a i v : Int} : am_gt (am_st M a i v) a i = v := by rw [nm_gt_st, if_pos ⟨rfl, rfl⟩]
/-- where a number of the state lies -/
def nm_ci (b a i j : Int) : Prop := (a = b ∧ ((i = 0 ∧ j = 0) ∨ (i = 6 ∧ j = 1) ∨ (i = 13 ∧ j = 2) ∨ (i = 15 ∧ j = 3) ∨ (i = 10 ∧ j = 5) ∨ (i = 11 ∧ j = 6) ∨ (i = 12 ∧ j = 7))) ∨ (a = b + 1 ∧ 0 ≤ i ∧ i < 6 ∧ j = 29 + i) ∨ (a = b + 2 ∧ 0 ≤ i ∧ i < 30 ∧ j = 35 + i) ∨ (a = b + 3 ∧ 0 ≤ i ∧ i < 6 ∧ j = 65 + i) ∨ (a = b + 4 ∧ 0 ≤ i ∧ i < 6 ∧ j = 71 + i) ∨ (a = b + 5 ∧ 0 ≤ i ∧ i < 8 ∧ j = 77 + i) ∨ (a = b + 6 ∧ 0 ≤ i ∧ i < 8 ∧ j = 85 + 3 * i) ∨ (a = b + 7 ∧ 0 ≤ i ∧ i < 8 ∧ j = 86 + 3 * i) ∨ (a = b + 8 ∧ 0 ≤ i ∧ i < 8 ∧ j = 87 + 3 * i)
theorem nm_c0 {b : Int} : nm_ci b b 0 0 := .inl ⟨rfl, .inl ⟨rfl, rfl⟩⟩
theorem nm_c1 {b : Int} : nm_ci b b 6 1 := .inl ⟨rfl, .inr (.inl ⟨rfl, rfl⟩)⟩
theorem nm_c2 {b : Int} : nm_ci b b 13 2 := .inl ⟨rfl, .inr (.inr (.inl ⟨rfl, rfl⟩))⟩
theorem nm_c3 {b : Int} : nm_ci b b 15 3 := .inl ⟨rfl, .inr (.inr (.inr (.inl ⟨rfl, rfl⟩)))⟩
theorem nm_c5 {b : Int} : nm_ci b b 10 5 := .inl ⟨rfl, .inr (.inr (.inr (.inr (.inl ⟨rfl, rfl⟩))))⟩
theorem nm_c6 {b : Int} : nm_ci b b 11 6 := .inl ⟨rfl, .inr (.inr (.inr (.inr (.inr (.inl ⟨rfl, rfl⟩)))))⟩
theorem nm_c7 {b : Int} : nm_ci b b 12 7 := .inl ⟨rfl, .inr (.inr (.inr (.inr (.inr (.inr ⟨rfl, rfl⟩)))))⟩
theorem nm_cA {b a i j : Int} (h : a = b + 1 ∧ 0 ≤ i ∧ i < 6 ∧ j = 29 + i) : nm_ci b a i j := .inr (.inl h)
theorem nm_cB {b a i j : Int} (h : a = b + 2 ∧ 0 ≤ i ∧ i < 30 ∧ j = 35 + i) : nm_ci b a i j := .inr (.inr (.inl h))
theorem nm_cC {b a i j : Int} (h : a = b + 3 ∧ 0 ≤ i ∧ i < 6 ∧ j = 65 + i) : nm_ci b a i j := .inr (.inr (.inr (.inl h)))
theorem nm_cD {b a i j : Int} (h : a = b + 4 ∧ 0 ≤ i ∧ i < 6 ∧ j = 71 + i) : nm_ci b a i j := .inr (.inr (.inr (.inr (.inl h))))
theorem nm_cE {b a i j : Int} (h : a = b + 5 ∧ 0 ≤ i ∧ i < 8 ∧ j = 77 + i) : nm_ci b a i j := .inr (.inr (.inr (.inr (.inr (.inl h)))))
theorem nm_cF1 {b a i j : Int} (h : a = b + 6 ∧ 0 ≤ i ∧ i < 8 ∧ j = 85 + 3 * i) : nm_ci b a i j := .inr (.inr (.inr (.inr (.inr (.inr (.inl h))))))
theorem nm_cG {b a i j : Int} (h : a = b + 7 ∧ 0 ≤ i ∧ i < 8 ∧ j = 86 + 3 * i) : nm_ci b a i j := .inr (.inr (.inr (.inr (.inr (.inr (.inr (.inl h)))))))
theorem nm_cH {b a i j : Int} (h : a = b + 8 ∧ 0 ≤ i ∧ i < 8 ∧ j = 87 + 3 * i) : nm_ci b a i j := .inr (.inr (.inr (.inr (.inr (.inr (.inr (.inr h)))))))
theorem nm_CS_of {M : am_M} {b : Int} {S : Int → Int} (h : ∀ a i j, nm_ci b a i j → am_gt M a i = S j) : nm_CS M b S := by
  exact ⟨h b 0 0 nm_c0, h b 6 1 nm_c1, h b 13 2 nm_c2, h b 15 3 nm_c3, h b 10 5 nm_c5, h b 11 6 nm_c6, h b 12 7 nm_c7, fun m x y => h (b + 1) m _ (nm_cA ⟨rfl, x, y, rfl⟩), fun m x y => h (b + 2) m _ (nm_cB ⟨rfl, x, y, rfl⟩), fun m x y => h (b + 3) m _ (nm_cC ⟨rfl, x, y, rfl⟩), fun m x y => h (b + 4) m _ (nm_cD ⟨rfl, x, y, rfl⟩), fun m x y => h (b + 5) m _ (nm_cE ⟨rfl, x, y, rfl⟩), fun m x y => h (b + 6) m _ (nm_cF1 ⟨rfl, x, y, rfl⟩), fun m x y => h (b + 7) m _ (nm_cG ⟨rfl, x, y, rfl⟩), fun m x y => h (b + 8) m _ (nm_cH ⟨rfl, x, y, rfl⟩)⟩
theorem nm_CS_at {M : am_M} {b : Int} {S : Int → Int} (h : nm_CS M b S) {a i j : Int} (hc : nm_ci b a i j) : am_gt M a i = S j := by
  obtain ⟨h1, h2, h3, h4, h5, h6, h7, h8, h9, h10, h11, h12, h13, h14, h15⟩ := h
  rcases hc with ⟨rfl, ⟨rfl, rfl⟩ | ⟨rfl, rfl⟩ | ⟨rfl, rfl⟩ | ⟨rfl, rfl⟩ | ⟨rfl, rfl⟩ | ⟨rfl, rfl⟩ | ⟨rfl, rfl⟩⟩ | ⟨rfl, x, y, rfl⟩ | ⟨rfl, x, y, rfl⟩ | ⟨rfl, x, y, rfl⟩ | ⟨rfl, x, y, rfl⟩ | ⟨rfl, x, y, rfl⟩ | ⟨rfl, x, y, rfl⟩ | ⟨rfl, x, y, rfl⟩ | ⟨rfl, x, y, rfl⟩
  · exact h1
  · exact h2
  · exact h3
  · exact h4
  · exact h5
  · exact h6
  · exact h7
  · exact h8 i x y
  · exact h9 i x y
  · exact h10 i x y
  · exact h11 i x y
  · exact h12 i x y
  · exact h13 i x y
  · exact h14 i x y
  · exact h15 i x y
theorem nm_ci_j {b a i j a' i' j' : Int} (h : nm_ci b a i j) (h' : nm_ci b a' i' j') (e : j = j') : a = a' ∧ i = i' := by
  subst e
  unfold nm_ci at h h'
  rcases h with ⟨rfl, h | h | h | h | h | h | h⟩ | h | h | h | h | h | h | h | h <;> rcases h' with ⟨h0, h' | h' | h' | h' | h' | h' | h'⟩ | h' | h' | h' | h' | h' | h' | h' | h' <;> omega
theorem nm_ci_f {b a i j j' : Int} (h : nm_ci b a i j) (h' : nm_ci b a i j') : j = j' := by
  unfold nm_ci at h h'
  rcases h with ⟨rfl, h | h | h | h | h | h | h⟩ | h | h | h | h | h | h | h | h <;> rcases h' with ⟨h0, h' | h' | h' | h' | h' | h' | h'⟩ | h' | h' | h' | h' | h' | h' | h' | h' <;> omega
theorem nm_CS_up {M : am_M} {b a i j v : Int} {S : Int → Int} (h : nm_CS M b S) (hc : nm_ci b a i j) : nm_CS (am_st M a i v) b (nm_up S j v) := by
  refine nm_CS_of (fun a' i' j' hc' => ?_)
  rw [nm_gt_st]
  by_cases hx : a' = a ∧ i' = i
  · obtain ⟨rfl, rfl⟩ := hx
    rw [if_pos ⟨rfl, rfl⟩, nm_ci_f hc' hc, nm_up_eq]
  · rw [if_neg hx, nm_up_ne (fun e => hx (nm_ci_j hc' hc e))]
    exact nm_CS_at h hc'
/-- a Works, one slot changed -/
theorem nm_CW_n {M : am_M} {w v : Int} {W : nm_W} (h : nm_CW M w W) : nm_CW (am_st M w 0 v) w (v, W.2) := by
  obtain ⟨h1, h2, h3, h4, h5, h6⟩ := h
  refine ⟨nm_st_eq, ?_, h3, fun p hp => ?_, fun m a b => ?_, fun p a b => ?_⟩
  · rw [nm_st_nj (by decide)]; exact h2
  · rw [nm_st_ne (by omega)]; exact h4 p hp
  · rw [nm_st_ne (by omega)]; exact h5 m a b
  · rw [nm_st_ne (by omega)]; exact h6 p a b
theorem nm_CW_s {M : am_M} {w m v : Int} {W : nm_W} (h : nm_CW M w W) : nm_CW (am_st M (w + 2) m v) w (W.1, W.2.1, nm_up W.2.2.1 m v, W.2.2.2) := by
  obtain ⟨h1, h2, h3, h4, h5, h6⟩ := h
  refine ⟨?_, ?_, h3, fun p hp => ?_, fun k a b => ?_, fun p a b => ?_⟩
  · rw [nm_st_ne (by omega)]; exact h1
  · rw [nm_st_ne (by omega)]; exact h2
  · rw [nm_st_ne (by omega)]; exact h4 p hp
  · show _ = nm_up W.2.2.1 m v k
    by_cases hk : k = m
    · subst hk; rw [nm_st_eq, nm_up_eq]
    · rw [nm_st_nj hk, nm_up_ne hk]; exact h5 k a b
  · rw [nm_st_ne (by omega)]; exact h6 p a b
theorem nm_CW_t {M : am_M} {w m v : Int} {W : nm_W} (h : nm_CW M w W) : nm_CW (am_st M (w + 3) m v) w (W.1, W.2.1, W.2.2.1, nm_up W.2.2.2 m v) := by
  obtain ⟨h1, h2, h3, h4, h5, h6⟩ := h
  refine ⟨?_, ?_, h3, fun p hp => ?_, fun k a b => ?_, fun k a b => ?_⟩
  · rw [nm_st_ne (by omega)]; exact h1
  · rw [nm_st_ne (by omega)]; exact h2
  · rw [nm_st_ne (by omega)]; exact h4 p hp
  · rw [nm_st_ne (by omega)]; exact h5 k a b
  · show _ = nm_up W.2.2.2 m v k
    by_cases hk : k = m
    · subst hk; rw [nm_st_eq, nm_up_eq]
    · rw [nm_st_nj hk, nm_up_ne hk]; exact h6 k a b
/-- counts of refusals (1 to 3, 5, 6), status (0), screws (7), fault (8), stopped (9), mirrors drawn (10) -/
def nm_CR (M : am_M) (R : Int → Int) : Prop := am_gt M 0 18 = R 0 ∧ am_gt M 184 0 = R 1 ∧ am_gt M 184 1 = R 2 ∧ am_gt M 184 2 = R 3 ∧ am_gt M 184 3 = R 5 ∧ am_gt M 184 4 = R 6 ∧ am_gt M 0 15 = R 7 ∧ am_gt M 0 16 = R 8 ∧ am_gt M 0 17 = R 9 ∧ am_gt M 0 14 = R 10
abbrev nm_Rg1 : nm_Rg := [(0, 14, 19), (184, 0, 5)]
abbrev nm_Rf : nm_Rg := [(0, 18, 19), (184, 0, 5)]
theorem nm_CR_fr {n s : Int} {f : nm_Rg} {M M' : am_M} {R : Int → Int} (h : nm_CR M R) (hL : nm_Lay M) (hF : nm_Fg n s f M M') (hd : nm_dj f nm_Rg1 = true) : nm_CR M' R := by
  obtain ⟨h1, h2, h3, h4, h5, h6, h7, h8, h9, h10⟩ := h
  have kp : ∀ a i, a < 247 → nm_in nm_Rg1 a i = true → am_gt M' a i = am_gt M a i := fun a i e c => nm_gt_frd hF hL e hd c
  refine ⟨?_, ?_, ?_, ?_, ?_, ?_, ?_, ?_, ?_, ?_⟩
  all_goals (rw [kp _ _ (by decide) (by decide)]; assumption)
/-- refused by v -/
def nm_rf1 (R : Int → Int) (v : Int) : Int → Int := fun i => if i = 0 then v else if i = -v then am_w (R i + 1) else R i
def nm_fn1 (R : Int → Int) : Int → Int := nm_up R 0 0
theorem nmc_44 {d : Nat} {a : Int} {R : Int → Int} {M : am_M} {Q : List am_V → am_M → Prop} (hL : nm_Lay M) (hR : nm_CR M R) (hQ : ∀ M', nm_Fr nm_Rf M M' → nm_CR M' (nm_fn1 R) → Q [(0, a)] M') : am_CL d 44 [(2, 0), (0, a)] M Q := by
  obtain ⟨h1, h2, h3, h4, h5, h6, h7, h8, h9, h10⟩ := hR
  refine h_44_0 hL (hQ _ (nm_Fr_st (nm_Fg_refl _ _) (by decide)) ⟨nm_st_eq, ?_, ?_, ?_, ?_, ?_, ?_, ?_, ?_, ?_⟩)
  all_goals (rw [nm_gt_st, if_neg (by decide)]; assumption)
theorem nmc_43 {d : Nat} {v : Int} {R : Int → Int} {M : am_M} {Q : List am_V → am_M → Prop} (hv : v = -1 ∨ v = -2 ∨ v = -3 ∨ v = -5 ∨ v = -6) (hL : nm_Lay M) (hR : nm_CR M R) (hQ : ∀ M', nm_Fr nm_Rf M M' → nm_CR M' (nm_rf1 R v) → Q [(0, v)] M') : am_CL d 43 [(2, 0), (0, v)] M Q := by
  obtain ⟨h1, h2, h3, h4, h5, h6, h7, h8, h9, h10⟩ := hR
  have fin : ∀ k : Int, 0 ≤ k → k < 5 → (v = -1 → k = 0) → (v = -2 → k = 1) → (v = -3 → k = 2) → (v = -5 → k = 3) → (v = -6 → k = 4) → Q [(0, v)] (am_st (am_st M 184 k (am_w ((am_gt M 184 k) + 1))) 0 18 v) := by
    intro k k0 k5 e1 e2 e3 e5 e6
    refine hQ _ (nm_Fr_st (nm_Fr_st (nm_Fg_refl _ _) (nm_in_c (lo := 0) (hi := 5) (by decide) k0 k5)) (by decide)) ?_
    rcases hv with rfl | rfl | rfl | rfl | rfl
    · obtain rfl := e1 rfl
      refine ⟨nm_st_eq, ?_, ?_, ?_, ?_, ?_, ?_, ?_, ?_, ?_⟩ <;> simp only [nm_gt_st, nm_rf1, Int.reduceEq, Int.reduceNeg, and_true, and_false, false_and, and_self, if_true, if_false, h2, h3, h4, h5, h6, h7, h8, h9, h10]
    · obtain rfl := e2 rfl
      refine ⟨nm_st_eq, ?_, ?_, ?_, ?_, ?_, ?_, ?_, ?_, ?_⟩ <;> simp only [nm_gt_st, nm_rf1, Int.reduceEq, Int.reduceNeg, and_true, and_false, false_and, and_self, if_true, if_false, h2, h3, h4, h5, h6, h7, h8, h9, h10]
    · obtain rfl := e3 rfl
      refine ⟨nm_st_eq, ?_, ?_, ?_, ?_, ?_, ?_, ?_, ?_, ?_⟩ <;> simp only [nm_gt_st, nm_rf1, Int.reduceEq, Int.reduceNeg, and_true, and_false, false_and, and_self, if_true, if_false, h2, h3, h4, h5, h6, h7, h8, h9, h10]
    · obtain rfl := e5 rfl
      refine ⟨nm_st_eq, ?_, ?_, ?_, ?_, ?_, ?_, ?_, ?_, ?_⟩ <;> simp only [nm_gt_st, nm_rf1, Int.reduceEq, Int.reduceNeg, and_true, and_false, false_and, and_self, if_true, if_false, h2, h3, h4, h5, h6, h7, h8, h9, h10]
    · obtain rfl := e6 rfl
      refine ⟨nm_st_eq, ?_, ?_, ?_, ?_, ?_, ?_, ?_, ?_, ?_⟩ <;> simp only [nm_gt_st, nm_rf1, Int.reduceEq, Int.reduceNeg, and_true, and_false, false_and, and_self, if_true, if_false, h2, h3, h4, h5, h6, h7, h8, h9, h10]
  have w1 : am_w (-2 - v) = -2 - v := am_w_id (by omega) (by omega)
  have w2 : am_w (-1 - v) = -1 - v := am_w_id (by omega) (by omega)
  refine h_43_0 hL ?_
  rw [w1, w2]
  refine ⟨fun h => ⟨fun h' => absurd h' (by omega), fun h' => ⟨fun h'' => absurd h'' (by omega), fun h'' => ⟨by omega, by omega, fin _ (by omega) (by omega) (by omega) (by omega) (by omega) (by omega) (by omega)⟩⟩⟩, fun h => ⟨fun h' => absurd h' (by omega), fun h' => ⟨fun h'' => absurd h'' (by omega), fun h'' => ⟨by omega, by omega, fin _ (by omega) (by omega) (by omega) (by omega) (by omega) (by omega) (by omega)⟩⟩⟩⟩
/-- an answer that is told: refused, if it is below 0 -/
def nm_tl1 (R : Int → Int) (a : Int) : Int → Int := if a < 0 then nm_rf1 R a else nm_fn1 R
theorem nmc_45 {d : Nat} {a : Int} {R : Int → Int} {M : am_M} {Q : List am_V → am_M → Prop} (hd : 1 ≤ d) (hv : 0 ≤ a ∨ a = -1 ∨ a = -2 ∨ a = -3 ∨ a = -5 ∨ a = -6) (hL : nm_Lay M) (hR : nm_CR M R) (hQ : ∀ M', nm_Fr nm_Rf M M' → nm_CR M' (nm_tl1 R a) → Q [(0, a)] M') : am_CL d 45 [(2, 0), (0, a)] M Q := by
  refine h_45_0 hL ⟨fun h => ⟨by omega, nmc_44 hL hR (fun M' F r => ?_)⟩, fun h => ⟨by omega, nmc_43 (by omega) hL hR (fun M' F r => ?_)⟩⟩
  · refine h_45_17 (nm_Lay_fr hL F (by decide +kernel)) (hQ M' F ?_)
    unfold nm_tl1; rw [if_neg (by omega)]; exact r
  · refine h_45_9 (nm_Lay_fr hL F (by decide +kernel)) (h_45_17 (nm_Lay_fr hL F (by decide +kernel)) (hQ M' F ?_))
    unfold nm_tl1; rw [if_pos (by omega)]; exact r
theorem nmc_46 {d : Nat} {m : Int} {M : am_M} {Q : List am_V → am_M → Prop} (hL : nm_Lay M) (h1 : 0 ≤ m → m < am_gt M 1 0 → Q [(0, 1)] M) (h0 : m < 0 ∨ am_gt M 1 0 ≤ m → Q [(0, 0)] M) : am_CL d 46 [(2, 0), (0, m)] M Q :=
  h_46_0 hL ⟨fun h => h0 (.inl h), fun h => ⟨fun h' => h0 (.inr h'), fun h' => h1 (by omega) (by omega)⟩⟩
theorem nmc_47 {d : Nat} {m : Int} {M : am_M} {Q : List am_V → am_M → Prop} (hL : nm_Lay M) (h1 : 0 ≤ m → m < am_gt M 1 13 → Q [(0, 1)] M) (h0 : m < 0 ∨ am_gt M 1 13 ≤ m → Q [(0, 0)] M) : am_CL d 47 [(2, 0), (0, m)] M Q :=
  h_47_0 hL ⟨fun h => h0 (.inl h), fun h => ⟨fun h' => h0 (.inr h'), fun h' => h1 (by omega) (by omega)⟩⟩
theorem nmc_48 {d : Nat} {m : Int} {M : am_M} {Q : List am_V → am_M → Prop} (hL : nm_Lay M) (h1 : 0 ≤ m → m < 8 → Q [(0, 1)] M) (h0 : m < 0 ∨ 8 ≤ m → Q [(0, 0)] M) : am_CL d 48 [(0, m)] M Q :=
  h_48_0 hL ⟨fun h => h0 (.inl h), fun h => ⟨fun h' => h0 (.inr h'), fun h' => h1 (by omega) (by omega)⟩⟩
theorem nmc_49 {d : Nat} {m : Int} {M : am_M} {Q : List am_V → am_M → Prop} (hL : nm_Lay M) (h1 : 1 ≤ m → m ≤ 8 → Q [(0, 1)] M) (h0 : m < 1 ∨ 8 < m → Q [(0, 0)] M) : am_CL d 49 [(0, m)] M Q :=
  h_49_0 hL ⟨fun h => h0 (.inl h), fun h => ⟨fun h' => h0 (.inr h'), fun h' => h1 (by omega) (by omega)⟩⟩
/-- how many parts a number names -/
def nm_pc (v : Int) : Int :=
  if v ≤ 0 then 0 else if v % 10 < 1 ∨ 8 < v % 10 then 0 else if v / 10 = 0 then 1
  else if v / 10 % 10 < 1 ∨ 8 < v / 10 % 10 then 0 else if v / 100 = 0 then 2
  else if v / 100 % 10 < 1 ∨ 8 < v / 100 % 10 then 0 else if v / 1000 = 0 then 3
  else if v / 1000 % 10 < 1 ∨ 8 < v / 1000 % 10 then 0 else if v / 10000 = 0 then 4
  else if v / 10000 % 10 < 1 ∨ 8 < v / 10000 % 10 then 0 else if v / 100000 = 0 then 5 else 0
theorem nm_td {x : Int} (h : 0 ≤ x) : x.tdiv 10 = x / 10 := Int.tdiv_eq_ediv_of_nonneg h
theorem nm_tm {x : Int} (h : 0 ≤ x) : x.tmod 10 = x % 10 := Int.tmod_eq_emod_of_nonneg h
theorem nm_pc_step {d : Nat} {x0 v k : Int} {l : am_V} {M : am_M} {Q : List am_V → am_M → Prop} (hL : nm_Lay M) (hv : 0 ≤ v) (hv2 : v ≤ 2147483647) (hk : 0 ≤ k) (hk5 : k < 5) (hz : v = 0 → Q [(0, k)] M) (hb : 0 < v → (v % 10 < 1 ∨ 8 < v % 10) → Q [(0, 0)] M) (hn : 0 < v → ¬ (v % 10 < 1 ∨ 8 < v % 10) → am_WP d am_c50 4 [(0, x0), (0, v / 10), (0, k + 1), (0, v % 10)] [] M Q) : am_WP d am_c50 4 [(0, x0), (0, v), (0, k), l] [] M Q := by
  refine h_50_4 hL ?_
  rw [nm_td hv, nm_tm hv, am_w_id (x := v / 10) (by omega) (by omega), am_w_id (x := k + 1) (by omega) (by omega)]
  exact ⟨fun h => ⟨fun h' => absurd h' (by omega), fun h' => hz (by omega)⟩, fun h => ⟨fun h' => absurd h' (by omega), fun h' => ⟨fun h'' => hb (by omega) (.inl h''), fun h'' => ⟨fun h3 => hn (by omega) (by omega), fun h3 => hb (by omega) (by omega)⟩⟩⟩⟩
theorem nmc_50 {d : Nat} {v : Int} {M : am_M} {Q : List am_V → am_M → Prop} (hL : nm_Lay M) (hv2 : v ≤ 2147483647) (hQ : Q [(0, nm_pc v)] M) : am_CL d 50 [(0, v)] M Q := by
  refine h_50_0 hL ?_
  by_cases hv : v ≤ 0
  · unfold nm_pc at hQ; rw [if_pos hv] at hQ
    exact h_50_4 hL ⟨fun h => ⟨fun _ => hQ, fun _ => hQ⟩, fun h => absurd hv h⟩
  unfold nm_pc at hQ; rw [if_neg hv] at hQ
  refine nm_pc_step hL (by omega) hv2 (by decide) (by decide) (fun h => absurd h (by omega)) (fun _ h => by rw [if_pos h] at hQ; exact hQ) (fun _ h => ?_)
  rw [if_neg h] at hQ
  refine nm_pc_step hL (by omega) (by omega) (by decide) (by decide) (fun h => by rw [if_pos h] at hQ; exact hQ) (fun h1 h => by rw [if_neg (by omega), if_pos h] at hQ; exact hQ) (fun h1 h => ?_)
  rw [if_neg (by omega), if_neg h] at hQ
  rw [show v / 10 / 10 = v / 100 by omega]
  refine nm_pc_step hL (by omega) (by omega) (by decide) (by decide) (fun h => by rw [if_pos h] at hQ; exact hQ) (fun h1 h => by rw [if_neg (by omega), if_pos h] at hQ; exact hQ) (fun h1 h => ?_)
  rw [if_neg (by omega), if_neg h] at hQ
  rw [show v / 100 / 10 = v / 1000 by omega]
  refine nm_pc_step hL (by omega) (by omega) (by decide) (by decide) (fun h => by rw [if_pos h] at hQ; exact hQ) (fun h1 h => by rw [if_neg (by omega), if_pos h] at hQ; exact hQ) (fun h1 h => ?_)
  rw [if_neg (by omega), if_neg h] at hQ
  rw [show v / 1000 / 10 = v / 10000 by omega]
  refine nm_pc_step hL (by omega) (by omega) (by decide) (by decide) (fun h => by rw [if_pos h] at hQ; exact hQ) (fun h1 h => by rw [if_neg (by omega), if_pos h] at hQ; exact hQ) (fun h1 h => ?_)
  rw [if_neg (by omega), if_neg h] at hQ
  rw [show v / 10000 / 10 = v / 100000 by omega]
  refine h_50_4 hL ⟨fun h => ⟨fun h' => absurd h' (by omega), fun h' => by rw [if_pos (by omega)] at hQ; exact hQ⟩, fun h => ⟨fun _ => ⟨fun h' => by rw [if_neg (by omega)] at hQ; exact hQ, fun h' => absurd h' (by omega)⟩, fun h' => absurd h' (by decide)⟩⟩
/-- the digits of a number written from place k - 1 down to 0 behind b -/
def nm_dg (b : Int) : Nat → Int → (Int → Int) → (Int → Int)
  | 0, _, S => S
  | k + 1, v, S => nm_dg b k (v / 10) (nm_up S (b + (k : Int)) (v % 10 - 1))
/-- one mirror more -/
def nm_addS (S : Int → Int) (v n bend : Int) : Int → Int := nm_up (nm_up (nm_up (nm_up (nm_dg (35 + 5 * S 0) n.toNat v S) (29 + S 0) n) (65 + S 0) bend) (71 + S 0) 0) 0 (S 0 + 1)
theorem nm_dg_ne {b : Int} {j : Int} : ∀ {k : Nat} {v : Int} {S : Int → Int}, (j < b ∨ b + (k : Int) ≤ j) → nm_dg b k v S j = S j
  | 0, _, _, _ => rfl
  | k + 1, v, S, h => by
    show nm_dg b k (v / 10) (nm_up S (b + (k : Int)) (v % 10 - 1)) j = S j
    rw [nm_dg_ne (by omega), nm_up_ne (by omega)]
theorem nmc_115 {d : Nat} {v n bend sil : Int} {S : Int → Int} {W : nm_W} {M : am_M} {Q : List am_V → am_M → Prop} (hL : nm_Lay M) (hS : nm_CS M 1 S) (hW : nm_CW M 11 W) (h0 : 0 ≤ S 0) (h6 : S 0 < 6) (hv : 0 ≤ v) (hv2 : v ≤ 2147483647) (hn : 0 ≤ n) (hn5 : n ≤ 5) (hQ : ∀ M', nm_Fr (nm_Sg 1 ++ nm_Wg 11) M M' → nm_CS M' 1 (nm_addS S v n bend) → nm_CW M' 11 (W.1, W.2.1, nm_up W.2.2.1 (S 0) sil, W.2.2.2) → Q [] M') : am_CL d 115 [(2, 1), (0, v), (0, n), (0, bend), (0, sil)] M Q := by
  have lay : ∀ {M'}, nm_Fr (nm_Sg 1 ++ nm_Wg 11) M M' → nm_Lay M' := fun F => nm_Lay_fr hL F (by decide +kernel)
  refine h_115_0 hL ?_
  rw [am_w_id (by omega) (by omega)]
  have key : ∀ k : Nat, (k : Int) ≤ n → ∀ (rest : Int) (M1 : am_M) (S1 : Int → Int), 0 ≤ rest → rest ≤ 2147483647 → nm_Fr (nm_Sg 1 ++ nm_Wg 11) M M1 → nm_CS M1 1 S1 → nm_CW M1 11 W → S1 0 = S 0 → nm_dg (35 + 5 * S 0) k rest S1 = nm_dg (35 + 5 * S 0) n.toNat v S → am_WP d am_c115 8 [(2, 1), (0, v), (0, n), (0, bend), (0, sil), (0, rest), (0, (k : Int) - 1)] [] M1 Q := by
    intro k
    induction k with
    | zero =>
      intro hk rest M1 S1 r0 r1 F C1 W1 e0 e
      have c0 := nm_s0 C1
      refine h_115_8 (lay F) ⟨fun _ => ?_, fun h => absurd h (by decide)⟩
      rw [c0, e0]
      refine ⟨h0, h6, ?_⟩
      have F2 := nm_Fr_st (a := 2) (i := S 0) (v := n) F (nm_in_c (lo := 0) (hi := 6) (by decide) h0 h6)
      have C2 := nm_CS_up (b := 1) (a := 2) (i := S 0) (j := 29 + S 0) (v := n) C1 (nm_cA (by omega))
      have W2 := nm_CW_fr W1 (lay F) (w := 11) (by decide) (nm_Fr_st (a := 2) (i := S 0) (v := n) (nm_Fg_refl [(2, 0, 6)] M1) (nm_in_c (lo := 0) (hi := 6) (by decide) h0 h6)) (by decide)
      have z2 : nm_up S1 (29 + S 0) n 0 = S 0 := by rw [nm_up_ne (by omega)]; exact e0
      refine h_115_57 (lay F2) ?_
      rw [nm_s0 C2, z2]
      refine ⟨h0, h6, ?_⟩
      have F3 := nm_Fr_st (a := 4) (i := S 0) (v := bend) F2 (nm_in_c (lo := 0) (hi := 6) (by decide) h0 h6)
      have C3 := nm_CS_up (b := 1) (a := 4) (i := S 0) (j := 65 + S 0) (v := bend) C2 (nm_cC (by omega))
      have W3 := nm_CW_fr W2 (lay F2) (w := 11) (by decide) (nm_Fr_st (a := 4) (i := S 0) (v := bend) (nm_Fg_refl [(4, 0, 6)] _) (nm_in_c (lo := 0) (hi := 6) (by decide) h0 h6)) (by decide)
      have z3 : nm_up (nm_up S1 (29 + S 0) n) (65 + S 0) bend 0 = S 0 := by rw [nm_up_ne (by omega)]; exact z2
      refine h_115_67 (lay F3) ?_
      rw [nm_s0 C3, z3]
      refine ⟨h0, h6, ?_⟩
      have F4 := nm_Fr_st (a := 5) (i := S 0) (v := 0) F3 (nm_in_c (lo := 0) (hi := 6) (by decide) h0 h6)
      have C4 := nm_CS_up (b := 1) (a := 5) (i := S 0) (j := 71 + S 0) (v := 0) C3 (nm_cD (by omega))
      have W4 := nm_CW_fr W3 (lay F3) (w := 11) (by decide) (nm_Fr_st (a := 5) (i := S 0) (v := 0) (nm_Fg_refl [(5, 0, 6)] _) (nm_in_c (lo := 0) (hi := 6) (by decide) h0 h6)) (by decide)
      have z4 : nm_up (nm_up (nm_up S1 (29 + S 0) n) (65 + S 0) bend) (71 + S 0) 0 0 = S 0 := by rw [nm_up_ne (by omega)]; exact z3
      refine h_115_77 (lay F4) ?_
      rw [nm_s0 C4, z4]
      refine ⟨h0, h6, ?_⟩
      rw [am_w_id (by omega) (by omega)]
      have F5 := nm_Fr_st (a := 13) (i := S 0) (v := sil) F4 (nm_in_c (lo := 0) (hi := 6) (by decide) h0 h6)
      have F6 := nm_Fr_st (a := 1) (i := 0) (v := S 0 + 1) F5 (by decide)
      have C5 := nm_CS_fr C4 (lay F4) (by decide) (nm_Fr_st (a := 13) (i := S 0) (v := sil) (nm_Fg_refl [(13, 0, 6)] _) (nm_in_c (lo := 0) (hi := 6) (by decide) h0 h6)) (by decide)
      have C6 := nm_CS_up (b := 1) (a := 1) (i := 0) (j := 0) (v := S 0 + 1) C5 nm_c0
      have W5 := nm_CW_s (m := S 0) (v := sil) W4
      have W6 := nm_CW_fr W5 (lay F5) (w := 11) (by decide) (nm_Fr_st (a := 1) (i := 0) (v := S 0 + 1) (nm_Fg_refl [(1, 0, 1)] _) (by decide)) (by decide)
      refine hQ _ F6 ?_ W6
      unfold nm_addS
      rw [← e]
      exact C6
    | succ k ih =>
      intro hk rest M1 S1 r0 r1 F C1 W1 e0 e
      have c0 := nm_s0 C1
      refine h_115_8 (lay F) ⟨fun h => absurd h (by omega), fun _ => ?_⟩
      rw [c0, e0, am_w_id (x := S 0 * 5) (by omega) (by omega), am_w_id (x := S 0 * 5 + _) (by omega) (by omega), nm_td r0, nm_tm r0, am_w_id (x := rest / 10) (by omega) (by omega), am_w_id (x := rest % 10 - 1) (by omega) (by omega), am_w_id (x := _ + -1) (by omega) (by omega)]
      refine ⟨by omega, by omega, ?_⟩
      have hx : S 0 * 5 + (((k + 1 : Nat) : Int) - 1) = 5 * S 0 + (k : Int) := by omega
      have hy : ((k + 1 : Nat) : Int) - 1 + -1 = (k : Int) - 1 := by omega
      rw [hx, hy]
      refine ih (by omega) (rest / 10) _ (nm_up S1 (35 + (5 * S 0 + (k : Int))) (rest % 10 - 1)) (by omega) (by omega) (nm_Fr_st F (nm_in_c (a := 3) (lo := 0) (hi := 30) (by decide) (by omega) (by omega))) (nm_CS_up C1 (nm_cB (by omega))) (nm_CW_fr W1 (lay F) (w := 11) (by decide) (nm_Fr_st (nm_Fg_refl [(3, 0, 30)] M1) (nm_in_c (lo := 0) (hi := 30) (by decide) (by omega) (by omega))) (by decide)) (by rw [nm_up_ne (by omega)]; exact e0) ?_
      rw [← e]
      show _ = nm_dg (35 + 5 * S 0) k (rest / 10) (nm_up S1 (35 + 5 * S 0 + (k : Int)) (rest % 10 - 1))
      rw [Int.add_assoc]
  have := key n.toNat (by omega) v M S hv hv2 (nm_Fg_refl _ _) hS hW rfl rfl
  rw [show ((n.toNat : Nat) : Int) - 1 = n - 1 by omega] at this
  exact this
theorem nmc_117 {d : Nat} {x y z : Int} {S : Int → Int} {M : am_M} {Q : List am_V → am_M → Prop} (hL : nm_Lay M) (hS : nm_CS M 1 S) (h0 : 0 ≤ S 1) (h8 : S 1 < 8) (hQ : ∀ M', nm_Fr (nm_Sg 1) M M' → nm_CS M' 1 (nm_up (nm_up (nm_up (nm_up S (85 + 3 * S 1) x) (86 + 3 * S 1) y) (87 + 3 * S 1) z) 1 (S 1 + 1)) → Q [] M') : am_CL d 117 [(2, 1), (0, x), (0, y), (0, z)] M Q := by
  have lay : ∀ {M'}, nm_Fr (nm_Sg 1) M M' → nm_Lay M' := fun F => nm_Lay_fr hL F (by decide +kernel)
  have F1 := nm_Fr_st (a := 7) (i := S 1) (v := x) (nm_Fg_refl (nm_Sg 1) M) (nm_in_c (lo := 0) (hi := 8) (by decide) h0 h8)
  have F2 := nm_Fr_st (a := 8) (i := S 1) (v := y) F1 (nm_in_c (lo := 0) (hi := 8) (by decide) h0 h8)
  have F3 := nm_Fr_st (a := 9) (i := S 1) (v := z) F2 (nm_in_c (lo := 0) (hi := 8) (by decide) h0 h8)
  have F4 := nm_Fr_st (a := 1) (i := 6) (v := S 1 + 1) F3 (by decide)
  have C1 := nm_CS_up (b := 1) (a := 7) (i := S 1) (j := 85 + 3 * S 1) (v := x) hS (nm_cF1 (by omega))
  have C2 := nm_CS_up (b := 1) (a := 8) (i := S 1) (j := 86 + 3 * S 1) (v := y) C1 (nm_cG (by omega))
  have C3 := nm_CS_up (b := 1) (a := 9) (i := S 1) (j := 87 + 3 * S 1) (v := z) C2 (nm_cH (by omega))
  have C4 := nm_CS_up (b := 1) (a := 1) (i := 6) (j := 1) (v := S 1 + 1) C3 nm_c1
  refine h_117_0 hL ?_
  rw [nm_s1 hS]
  refine ⟨h0, h8, h_117_10 (lay F1) ?_⟩
  rw [nm_s1 C1, nm_up_ne (by omega)]
  refine ⟨h0, h8, h_117_20 (lay F2) ?_⟩
  rw [nm_s1 C2, nm_up_ne (by omega), nm_up_ne (by omega), am_w_id (by omega) (by omega)]
  exact ⟨h0, h8, hQ _ F4 C4⟩
/-- a bit, and a bit set -/
def nm_bit (c k : Int) : Int := c / 2 ^ k.toNat % 2
def nm_setb (c k b : Int) : Int := c + (b - nm_bit c k) * 2 ^ k.toNat
theorem nm_bit_dec : ∀ c, c < 64 → ∀ k, k < 6 → am_and (am_shr ((c : Nat) : Int) ((k : Nat) : Int)) 1 = nm_bit (c : Int) (k : Int) := by decide +kernel
theorem nm_setb_dec : ∀ c, c < 64 → ∀ k, k < 6 → ∀ b, b < 2 → am_or (am_and ((c : Nat) : Int) (am_xor (am_shl 1 ((k : Nat) : Int)) (-1))) (am_shl ((b : Nat) : Int) ((k : Nat) : Int)) = nm_setb (c : Int) (k : Int) (b : Int) := by decide +kernel
theorem nm_nat {x : Int} {n : Nat} (h : 0 ≤ x) (h2 : x < (n : Int)) : ∃ k : Nat, k < n ∧ x = (k : Int) := ⟨x.toNat, by omega, by omega⟩
theorem nm_bit_and {c k : Int} (hc : 0 ≤ c) (hc2 : c ≤ 63) (hk : 0 ≤ k) (hk2 : k < 6) : am_and (am_shr c k) 1 = nm_bit c k := by
  obtain ⟨n, hn, rfl⟩ := nm_nat (n := 64) hc (by omega)
  obtain ⟨j, hj, rfl⟩ := nm_nat (n := 6) hk hk2
  exact nm_bit_dec n hn j hj
theorem nm_setb_or {c k b : Int} (hc : 0 ≤ c) (hc2 : c ≤ 63) (hk : 0 ≤ k) (hk2 : k < 6) (hb : 0 ≤ b) (hb2 : b ≤ 1) : am_or (am_and c (am_xor (am_shl 1 k) (-1))) (am_shl b k) = nm_setb c k b := by
  obtain ⟨n, hn, rfl⟩ := nm_nat (n := 64) hc (by omega)
  obtain ⟨j, hj, rfl⟩ := nm_nat (n := 6) hk hk2
  obtain ⟨i, hi, rfl⟩ := nm_nat (n := 2) hb (by omega)
  exact nm_setb_dec n hn j hj i hi
def nm_crS (S : Int → Int) (x y b : Int) : Int → Int := nm_up (nm_up S (71 + x) (nm_setb (S (71 + x)) y b)) (71 + y) (nm_setb (S (71 + y)) x b)
theorem nmc_118 {d : Nat} {x y b : Int} {S : Int → Int} {M : am_M} {Q : List am_V → am_M → Prop} (hL : nm_Lay M) (hS : nm_CS M 1 S) (hO : nm_okS S) (hx : 0 ≤ x) (hx6 : x < 6) (hy : 0 ≤ y) (hy6 : y < 6) (hne : x ≠ y) (hb : 0 ≤ b) (hb1 : b ≤ 1) (hQ : ∀ M', nm_Fr (nm_Sg 1) M M' → nm_CS M' 1 (nm_crS S x y b) → Q [] M') : am_CL d 118 [(2, 1), (0, x), (0, y), (0, b)] M Q := by
  have oc := hO.2.2.2.2.2.2.2.2.2.2.1
  have F1 := nm_Fr_st (a := 5) (i := x) (v := nm_setb (S (71 + x)) y b) (nm_Fg_refl (nm_Sg 1) M) (nm_in_c (lo := 0) (hi := 6) (by decide) hx hx6)
  have F2 := nm_Fr_st (a := 5) (i := y) (v := nm_setb (S (71 + y)) x b) F1 (nm_in_c (lo := 0) (hi := 6) (by decide) hy hy6)
  have C1 := nm_CS_up (b := 1) (a := 5) (i := x) (j := 71 + x) (v := nm_setb (S (71 + x)) y b) hS (nm_cD (by omega))
  have C2 := nm_CS_up (b := 1) (a := 5) (i := y) (j := 71 + y) (v := nm_setb (S (71 + y)) x b) C1 (nm_cD (by omega))
  refine h_118_0 hL ⟨hx, hx6, hy, hy6, ?_⟩
  rw [nm_scrack hS hx hx6, nm_setb_or (oc x hx hx6).1 (oc x hx hx6).2 hy hy6 hb hb1, nm_st_nj (fun h => hne h.symm), nm_scrack hS hy hy6, nm_setb_or (oc y hy hy6).1 (oc y hy hy6).2 hx hx6 hb hb1]
  exact hQ _ F2 C2
theorem nmc_120 {d : Nat} {k : Int} {S : Int → Int} {W : nm_W} {M : am_M} {Q : List am_V → am_M → Prop} (hL : nm_Lay M) (hS : nm_CS M 1 S) (hW : nm_CW M 11 W) (hQ : Q [(0, if k = 0 then W.1 else if 1 ≤ k ∧ k ≤ 3 then S (4 + k) else -1)] M) : am_CL d 120 [(2, 1), (0, k)] M Q := by
  refine h_120_0 hL ⟨fun h => ?_, fun h => ⟨fun h1 => ?_, fun h1 => ⟨fun h2 => ?_, fun h2 => ⟨fun h3 => ?_, fun h3 => ?_⟩⟩⟩⟩
  · rw [if_pos h] at hQ; rw [hW.1]; exact hQ
  · rw [if_neg h, if_pos (by omega), h1] at hQ; rw [nm_s5 hS]; exact hQ
  · rw [if_neg h, if_pos (by omega), h2] at hQ; rw [nm_s6 hS]; exact hQ
  · rw [if_neg h, if_pos (by omega), h3] at hQ; rw [nm_s7 hS]; exact hQ
  · rw [if_neg h, if_neg (by omega)] at hQ; exact hQ
/-- a term that can be -/
def nm_trm (k v : Int) : Prop := 0 ≤ v ∧ ((k = 0 ∧ v ≤ 999) ∨ (k = 1 ∧ v ≤ 10) ∨ (k = 2 ∧ v ≤ 9) ∨ (k = 3 ∧ 1 ≤ v ∧ v ≤ 8))
theorem nmc_121 {d : Nat} {k v : Int} {S : Int → Int} {W : nm_W} {M : am_M} {Q : List am_V → am_M → Prop} (hL : nm_Lay M) (hS : nm_CS M 1 S) (hW : nm_CW M 11 W) (hno : ¬ nm_trm k v → Q [(0, 0)] M) (hQ : ∀ M', nm_trm k v → nm_Fr (nm_Sg 1 ++ nm_Wg 11) M M' → nm_CS M' 1 (if k = 0 then S else nm_up S (4 + k) v) → nm_CW M' 11 (if k = 0 then v else W.1, W.2) → Q [(0, 1)] M') : am_CL d 121 [(2, 1), (0, k), (0, v)] M Q := by
  have up : ∀ i : Int, i = 10 ∨ i = 11 ∨ i = 12 → nm_trm k v → k + 9 = i → Q [(0, 1)] (am_st M 1 i v) := by
    intro i hi ht hk
    have hk0 : k ≠ 0 := by omega
    refine hQ _ ht (nm_Fr_st (nm_Fg_refl _ _) (nm_in_c (lo := 10) (hi := 14) (by decide) (by omega) (by omega))) ?_ ?_
    · rw [if_neg hk0]; exact nm_CS_up hS (show nm_ci 1 1 i (4 + k) from by
        rcases hi with rfl | rfl | rfl
        · rw [show 4 + k = 5 by omega]; exact nm_c5
        · rw [show 4 + k = 6 by omega]; exact nm_c6
        · rw [show 4 + k = 7 by omega]; exact nm_c7)
    · rw [if_neg hk0]; exact nm_CW_fr hW hL (w := 11) (by decide) (nm_Fr_st (nm_Fg_refl [(1, 10, 14)] M) (nm_in_c (lo := 10) (hi := 14) (by decide) (by omega) (by omega))) (by decide)
  refine h_121_0 hL ⟨fun h => ?_, fun h => hno (by unfold nm_trm; omega)⟩
  have a47 : k ≠ 0 ∨ 999 < v → k ≠ 1 ∨ 10 < v → am_WP d am_c121 47 [(2, 1), (0, k), (0, v)] [] M Q := by
    intro c1 c2
    refine h_121_47 hL ⟨fun h2 => ⟨fun h3 => hno (by unfold nm_trm; omega), fun h3 => ⟨fun h4 => hno (by unfold nm_trm; omega), fun h4 => ⟨fun h5 => hno (by unfold nm_trm; omega), fun h5 => up 12 (by decide) (by unfold nm_trm; omega) (by omega)⟩⟩⟩, fun h2 => ⟨fun h3 => ⟨fun h4 => hno (by unfold nm_trm; omega), fun h4 => absurd h4 (by omega)⟩, fun h3 => up 11 (by decide) (by unfold nm_trm; omega) (by omega)⟩⟩
  have a28 : k ≠ 0 ∨ 999 < v → am_WP d am_c121 28 [(2, 1), (0, k), (0, v)] [] M Q := by
    intro c1
    exact h_121_28 hL ⟨fun h2 => a47 c1 (.inl h2), fun h2 => ⟨fun h3 => a47 c1 (.inr h3), fun h3 => up 10 (by decide) (by unfold nm_trm; omega) (by omega)⟩⟩
  refine ⟨fun h1 => a28 (.inl h1), fun h1 => ⟨fun h2 => a28 (.inr h2), fun h2 => ?_⟩⟩
  have hk : k = 0 := by omega
  refine hQ _ (by unfold nm_trm; omega) (nm_Fr_st (nm_Fg_refl _ _) (by decide)) ?_ ?_
  · rw [if_pos hk]; exact nm_CS_fr hS hL (by decide) (nm_Fr_st (nm_Fg_refl [(11, 0, 1)] M) (by decide)) (by decide)
  · rw [if_pos hk]; exact nm_CW_n hW
