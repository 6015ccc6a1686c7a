/-! THE CLASS: ITS STATE, WHAT IT KEEPS UNDONE, ITS ANSWERS -/
def nm_up (S : Int → Int) (j v : Int) : Int → Int := fun k => if k = j then v else S k
theorem nm_up_eq (S : Int → Int) (j v : Int) : nm_up S j v j = v := if_pos rfl
theorem nm_up_ne {S : Int → Int} {j v k : Int} (h : k ≠ j) : nm_up S j v k = S k := if_neg h
theorem nm_st_ne {M : am_M} {a i v b j : Int} (h : b ≠ a) : am_gt (am_st M a i v) b j = am_gt M b j := by rw [nm_gt_st, if_neg (fun c => h c.1)]
theorem nm_st_nj {M : am_M} {a i v b j : Int} (h : j ≠ i) : am_gt (am_st M a i v) b j = am_gt M b j := by rw [nm_gt_st, if_neg (fun c => h c.2)]
theorem nm_st_eq {M : am_M} {a i v : Int} : am_gt (am_st M a i v) a i = v := by rw [nm_gt_st, if_pos ⟨rfl, rfl⟩]
/-- where a number of the state lies -/
def nm_ci (b a i j : Int) : Prop := (a = b ∧ ((i = 0 ∧ j = 0) ∨ (i = 6 ∧ j = 1) ∨ (i = 13 ∧ j = 2) ∨ (i = 15 ∧ j = 3) ∨ (i = 10 ∧ j = 5) ∨ (i = 11 ∧ j = 6) ∨ (i = 12 ∧ j = 7))) ∨ (a = b + 1 ∧ 0 ≤ i ∧ i < 6 ∧ j = 29 + i) ∨ (a = b + 2 ∧ 0 ≤ i ∧ i < 30 ∧ j = 35 + i) ∨ (a = b + 3 ∧ 0 ≤ i ∧ i < 6 ∧ j = 65 + i) ∨ (a = b + 4 ∧ 0 ≤ i ∧ i < 6 ∧ j = 71 + i) ∨ (a = b + 5 ∧ 0 ≤ i ∧ i < 8 ∧ j = 77 + i) ∨ (a = b + 6 ∧ 0 ≤ i ∧ i < 8 ∧ j = 85 + 3 * i) ∨ (a = b + 7 ∧ 0 ≤ i ∧ i < 8 ∧ j = 86 + 3 * i) ∨ (a = b + 8 ∧ 0 ≤ i ∧ i < 8 ∧ j = 87 + 3 * i)
theorem nm_CS_of {M : am_M} {b : Int} {S : Int → Int} (h : ∀ a i j, nm_ci b a i j → am_gt M a i = S j) : nm_CS M b S := by
  refine ⟨h b 0 0 ?_, h b 6 1 ?_, h b 13 2 ?_, h b 15 3 ?_, h b 10 5 ?_, h b 11 6 ?_, h b 12 7 ?_, fun m x y => h (b + 1) m _ ?_, fun m x y => h (b + 2) m _ ?_, fun m x y => h (b + 3) m _ ?_, fun m x y => h (b + 4) m _ ?_, fun m x y => h (b + 5) m _ ?_, fun m x y => h (b + 6) m _ ?_, fun m x y => h (b + 7) m _ ?_, fun m x y => h (b + 8) m _ ?_⟩ <;> (unfold nm_ci; omega)
theorem nm_CS_at {M : am_M} {b : Int} {S : Int → Int} (h : nm_CS M b S) {a i j : Int} (hc : nm_ci b a i j) : am_gt M a i = S j := by
  obtain ⟨h1, h2, h3, h4, h5, h6, h7, h8, h9, h10, h11, h12, h13, h14, h15⟩ := h
  rcases hc with ⟨rfl, ⟨rfl, rfl⟩ | ⟨rfl, rfl⟩ | ⟨rfl, rfl⟩ | ⟨rfl, rfl⟩ | ⟨rfl, rfl⟩ | ⟨rfl, rfl⟩ | ⟨rfl, rfl⟩⟩ | ⟨rfl, x, y, rfl⟩ | ⟨rfl, x, y, rfl⟩ | ⟨rfl, x, y, rfl⟩ | ⟨rfl, x, y, rfl⟩ | ⟨rfl, x, y, rfl⟩ | ⟨rfl, x, y, rfl⟩ | ⟨rfl, x, y, rfl⟩ | ⟨rfl, x, y, rfl⟩
  · exact h1
  · exact h2
  · exact h3
  · exact h4
  · exact h5
  · exact h6
  · exact h7
  · exact h8 i x y
  · exact h9 i x y
  · exact h10 i x y
  · exact h11 i x y
  · exact h12 i x y
  · exact h13 i x y
  · exact h14 i x y
  · exact h15 i x y
theorem nm_ci_j {b a i j a' i' j' : Int} (h : nm_ci b a i j) (h' : nm_ci b a' i' j') (e : j = j') : a = a' ∧ i = i' := by
  subst e
  unfold nm_ci at h h'
  rcases h with ⟨rfl, h | h | h | h | h | h | h⟩ | h | h | h | h | h | h | h | h <;> rcases h' with ⟨h0, h' | h' | h' | h' | h' | h' | h'⟩ | h' | h' | h' | h' | h' | h' | h' | h' <;> omega
theorem nm_ci_f {b a i j j' : Int} (h : nm_ci b a i j) (h' : nm_ci b a i j') : j = j' := by
  unfold nm_ci at h h'
  rcases h with ⟨rfl, h | h | h | h | h | h | h⟩ | h | h | h | h | h | h | h | h <;> rcases h' with ⟨h0, h' | h' | h' | h' | h' | h' | h'⟩ | h' | h' | h' | h' | h' | h' | h' | h' <;> omega
theorem nm_CS_up {M : am_M} {b a i j v : Int} {S : Int → Int} (h : nm_CS M b S) (hc : nm_ci b a i j) : nm_CS (am_st M a i v) b (nm_up S j v) := by
  refine nm_CS_of (fun a' i' j' hc' => ?_)
  rw [nm_gt_st]
  by_cases hx : a' = a ∧ i' = i
  · obtain ⟨rfl, rfl⟩ := hx
    rw [if_pos ⟨rfl, rfl⟩, nm_ci_f hc' hc, nm_up_eq]
  · rw [if_neg hx, nm_up_ne (fun e => hx (nm_ci_j hc' hc e))]
    exact nm_CS_at h hc'
/-- a Works, one slot changed -/
theorem nm_CW_n {M : am_M} {w v : Int} {W : nm_W} (h : nm_CW M w W) : nm_CW (am_st M w 0 v) w (v, W.2) := by
  obtain ⟨h1, h2, h3, h4, h5, h6⟩ := h
  refine ⟨nm_st_eq, ?_, h3, fun p hp => ?_, fun m a b => ?_, fun p a b => ?_⟩
  · rw [nm_st_nj (by decide)]; exact h2
  · rw [nm_st_ne (by omega)]; exact h4 p hp
  · rw [nm_st_ne (by omega)]; exact h5 m a b
  · rw [nm_st_ne (by omega)]; exact h6 p a b
theorem nm_CW_s {M : am_M} {w m v : Int} {W : nm_W} (h : nm_CW M w W) : nm_CW (am_st M (w + 2) m v) w (W.1, W.2.1, nm_up W.2.2.1 m v, W.2.2.2) := by
  obtain ⟨h1, h2, h3, h4, h5, h6⟩ := h
  refine ⟨?_, ?_, h3, fun p hp => ?_, fun k a b => ?_, fun p a b => ?_⟩
  · rw [nm_st_ne (by omega)]; exact h1
  · rw [nm_st_ne (by omega)]; exact h2
  · rw [nm_st_ne (by omega)]; exact h4 p hp
  · show _ = nm_up W.2.2.1 m v k
    by_cases hk : k = m
    · subst hk; rw [nm_st_eq, nm_up_eq]
    · rw [nm_st_nj hk, nm_up_ne hk]; exact h5 k a b
  · rw [nm_st_ne (by omega)]; exact h6 p a b
theorem nm_CW_t {M : am_M} {w m v : Int} {W : nm_W} (h : nm_CW M w W) : nm_CW (am_st M (w + 3) m v) w (W.1, W.2.1, W.2.2.1, nm_up W.2.2.2 m v) := by
  obtain ⟨h1, h2, h3, h4, h5, h6⟩ := h
  refine ⟨?_, ?_, h3, fun p hp => ?_, fun k a b => ?_, fun k a b => ?_⟩
  · rw [nm_st_ne (by omega)]; exact h1
  · rw [nm_st_ne (by omega)]; exact h2
  · rw [nm_st_ne (by omega)]; exact h4 p hp
  · rw [nm_st_ne (by omega)]; exact h5 k a b
  · show _ = nm_up W.2.2.2 m v k
    by_cases hk : k = m
    · subst hk; rw [nm_st_eq, nm_up_eq]
    · rw [nm_st_nj hk, nm_up_ne hk]; exact h6 k a b
/-- counts of refusals (1 to 3, 5, 6), status (0), screws (7), fault (8), stopped (9), mirrors drawn (10) -/
def nm_CR (M : am_M) (R : Int → Int) : Prop := am_gt M 0 18 = R 0 ∧ am_gt M 184 0 = R 1 ∧ am_gt M 184 1 = R 2 ∧ am_gt M 184 2 = R 3 ∧ am_gt M 184 3 = R 5 ∧ am_gt M 184 4 = R 6 ∧ am_gt M 0 15 = R 7 ∧ am_gt M 0 16 = R 8 ∧ am_gt M 0 17 = R 9 ∧ am_gt M 0 14 = R 10
abbrev nm_Rg1 : nm_Rg := [(0, 14, 19), (184, 0, 5)]
abbrev nm_Rf : nm_Rg := [(0, 18, 19), (184, 0, 5)]
theorem nm_CR_fr {n s : Int} {f : nm_Rg} {M M' : am_M} {R : Int → Int} (h : nm_CR M R) (hL : nm_Lay M) (hF : nm_Fg n s f M M') (hd : nm_dj f nm_Rg1 = true) : nm_CR M' R := by
  obtain ⟨h1, h2, h3, h4, h5, h6, h7, h8, h9, h10⟩ := h
  have kp : ∀ a i, a < 247 → nm_in nm_Rg1 a i = true → am_gt M' a i = am_gt M a i := fun a i e c => nm_gt_frd hF hL e hd c
  refine ⟨?_, ?_, ?_, ?_, ?_, ?_, ?_, ?_, ?_, ?_⟩
  all_goals (rw [kp _ _ (by decide) (by decide)]; assumption)
/-- refused by v -/
def nm_rf1 (R : Int → Int) (v : Int) : Int → Int := fun i => if i = 0 then v else if i = -v then am_w (R i + 1) else R i
def nm_fn1 (R : Int → Int) : Int → Int := nm_up R 0 0
theorem nmc_44 {d : Nat} {a : Int} {R : Int → Int} {M : am_M} {Q : List am_V → am_M → Prop} (hL : nm_Lay M) (hR : nm_CR M R) (hQ : ∀ M', nm_Fr nm_Rf M M' → nm_CR M' (nm_fn1 R) → Q [(0, a)] M') : am_CL d 44 [(2, 0), (0, a)] M Q := by
  obtain ⟨h1, h2, h3, h4, h5, h6, h7, h8, h9, h10⟩ := hR
  refine h_44_0 hL (hQ _ (nm_Fr_st (nm_Fg_refl _ _) (by decide)) ⟨nm_st_eq, ?_, ?_, ?_, ?_, ?_, ?_, ?_, ?_, ?_⟩)
  all_goals (rw [nm_gt_st, if_neg (by decide)]; assumption)
theorem nmc_43 {d : Nat} {v : Int} {R : Int → Int} {M : am_M} {Q : List am_V → am_M → Prop} (hv : v = -1 ∨ v = -2 ∨ v = -3 ∨ v = -5 ∨ v = -6) (hL : nm_Lay M) (hR : nm_CR M R) (hQ : ∀ M', nm_Fr nm_Rf M M' → nm_CR M' (nm_rf1 R v) → Q [(0, v)] M') : am_CL d 43 [(2, 0), (0, v)] M Q := by
  obtain ⟨h1, h2, h3, h4, h5, h6, h7, h8, h9, h10⟩ := hR
  have fin : ∀ k : Int, 0 ≤ k → k < 5 → (v = -1 → k = 0) → (v = -2 → k = 1) → (v = -3 → k = 2) → (v = -5 → k = 3) → (v = -6 → k = 4) → Q [(0, v)] (am_st (am_st M 184 k (am_w ((am_gt M 184 k) + 1))) 0 18 v) := by
    intro k k0 k5 e1 e2 e3 e5 e6
    refine hQ _ (nm_Fr_st (nm_Fr_st (nm_Fg_refl _ _) (nm_in_c (lo := 0) (hi := 5) (by decide) k0 k5)) (by decide)) ?_
    rcases hv with rfl | rfl | rfl | rfl | rfl
    · obtain rfl := e1 rfl
      refine ⟨nm_st_eq, ?_, ?_, ?_, ?_, ?_, ?_, ?_, ?_, ?_⟩ <;> simp only [nm_gt_st, nm_rf1, Int.reduceEq, Int.reduceNeg, and_true, and_false, false_and, and_self, if_true, if_false, h2, h3, h4, h5, h6, h7, h8, h9, h10]
    · obtain rfl := e2 rfl
      refine ⟨nm_st_eq, ?_, ?_, ?_, ?_, ?_, ?_, ?_, ?_, ?_⟩ <;> simp only [nm_gt_st, nm_rf1, Int.reduceEq, Int.reduceNeg, and_true, and_false, false_and, and_self, if_true, if_false, h2, h3, h4, h5, h6, h7, h8, h9, h10]
    · obtain rfl := e3 rfl
      refine ⟨nm_st_eq, ?_, ?_, ?_, ?_, ?_, ?_, ?_, ?_, ?_⟩ <;> simp only [nm_gt_st, nm_rf1, Int.reduceEq, Int.reduceNeg, and_true, and_false, false_and, and_self, if_true, if_false, h2, h3, h4, h5, h6, h7, h8, h9, h10]
    · obtain rfl := e5 rfl
      refine ⟨nm_st_eq, ?_, ?_, ?_, ?_, ?_, ?_, ?_, ?_, ?_⟩ <;> simp only [nm_gt_st, nm_rf1, Int.reduceEq, Int.reduceNeg, and_true, and_false, false_and, and_self, if_true, if_false, h2, h3, h4, h5, h6, h7, h8, h9, h10]
    · obtain rfl := e6 rfl
      refine ⟨nm_st_eq, ?_, ?_, ?_, ?_, ?_, ?_, ?_, ?_, ?_⟩ <;> simp only [nm_gt_st, nm_rf1, Int.reduceEq, Int.reduceNeg, and_true, and_false, false_and, and_self, if_true, if_false, h2, h3, h4, h5, h6, h7, h8, h9, h10]
  have w1 : am_w (-2 - v) = -2 - v := am_w_id (by omega) (by omega)
  have w2 : am_w (-1 - v) = -1 - v := am_w_id (by omega) (by omega)
  refine h_43_0 hL ?_
  rw [w1, w2]
  refine ⟨fun h => ⟨fun h' => absurd h' (by omega), fun h' => ⟨fun h'' => absurd h'' (by omega), fun h'' => ⟨by omega, by omega, fin _ (by omega) (by omega) (by omega) (by omega) (by omega) (by omega) (by omega)⟩⟩⟩, fun h => ⟨fun h' => absurd h' (by omega), fun h' => ⟨fun h'' => absurd h'' (by omega), fun h'' => ⟨by omega, by omega, fin _ (by omega) (by omega) (by omega) (by omega) (by omega) (by omega) (by omega)⟩⟩⟩⟩
/-- an answer that is told: refused, if it is below 0 -/
def nm_tl1 (R : Int → Int) (a : Int) : Int → Int := if a < 0 then nm_rf1 R a else nm_fn1 R
theorem nmc_45 {d : Nat} {a : Int} {R : Int → Int} {M : am_M} {Q : List am_V → am_M → Prop} (hd : 1 ≤ d) (hv : 0 ≤ a ∨ a = -1 ∨ a = -2 ∨ a = -3 ∨ a = -5 ∨ a = -6) (hL : nm_Lay M) (hR : nm_CR M R) (hQ : ∀ M', nm_Fr nm_Rf M M' → nm_CR M' (nm_tl1 R a) → Q [(0, a)] M') : am_CL d 45 [(2, 0), (0, a)] M Q := by
  refine h_45_0 hL ⟨fun h => ⟨by omega, nmc_44 hL hR (fun M' F r => ?_)⟩, fun h => ⟨by omega, nmc_43 (by omega) hL hR (fun M' F r => ?_)⟩⟩
  · refine h_45_17 (nm_Lay_fr hL F (by decide +kernel)) (hQ M' F ?_)
    unfold nm_tl1; rw [if_neg (by omega)]; exact r
  · refine h_45_9 (nm_Lay_fr hL F (by decide +kernel)) (h_45_17 (nm_Lay_fr hL F (by decide +kernel)) (hQ M' F ?_))
    unfold nm_tl1; rw [if_pos (by omega)]; exact r
theorem nmc_46 {d : Nat} {m : Int} {M : am_M} {Q : List am_V → am_M → Prop} (hL : nm_Lay M) (h1 : 0 ≤ m → m < am_gt M 1 0 → Q [(0, 1)] M) (h0 : m < 0 ∨ am_gt M 1 0 ≤ m → Q [(0, 0)] M) : am_CL d 46 [(2, 0), (0, m)] M Q :=
  h_46_0 hL ⟨fun h => h0 (.inl h), fun h => ⟨fun h' => h0 (.inr h'), fun h' => h1 (by omega) (by omega)⟩⟩
theorem nmc_47 {d : Nat} {m : Int} {M : am_M} {Q : List am_V → am_M → Prop} (hL : nm_Lay M) (h1 : 0 ≤ m → m < am_gt M 1 13 → Q [(0, 1)] M) (h0 : m < 0 ∨ am_gt M 1 13 ≤ m → Q [(0, 0)] M) : am_CL d 47 [(2, 0), (0, m)] M Q :=
  h_47_0 hL ⟨fun h => h0 (.inl h), fun h => ⟨fun h' => h0 (.inr h'), fun h' => h1 (by omega) (by omega)⟩⟩
theorem nmc_48 {d : Nat} {m : Int} {M : am_M} {Q : List am_V → am_M → Prop} (hL : nm_Lay M) (h1 : 0 ≤ m → m < 8 → Q [(0, 1)] M) (h0 : m < 0 ∨ 8 ≤ m → Q [(0, 0)] M) : am_CL d 48 [(0, m)] M Q :=
  h_48_0 hL ⟨fun h => h0 (.inl h), fun h => ⟨fun h' => h0 (.inr h'), fun h' => h1 (by omega) (by omega)⟩⟩
theorem nmc_49 {d : Nat} {m : Int} {M : am_M} {Q : List am_V → am_M → Prop} (hL : nm_Lay M) (h1 : 1 ≤ m → m ≤ 8 → Q [(0, 1)] M) (h0 : m < 1 ∨ 8 < m → Q [(0, 0)] M) : am_CL d 49 [(0, m)] M Q :=
  h_49_0 hL ⟨fun h => h0 (.inl h), fun h => ⟨fun h' => h0 (.inr h'), fun h' => h1 (by omega) (by omega)⟩⟩
/-- how many parts a number names -/
def nm_pc (v : Int) : Int :=
  if v ≤ 0 then 0 else if v % 10 < 1 ∨ 8 < v % 10 then 0 else if v / 10 = 0 then 1
  else if v / 10 % 10 < 1 ∨ 8 < v / 10 % 10 then 0 else if v / 100 = 0 then 2
  else if v / 100 % 10 < 1 ∨ 8 < v / 100 % 10 then 0 else if v / 1000 = 0 then 3
  else if v / 1000 % 10 < 1 ∨ 8 < v / 1000 % 10 then 0 else if v / 10000 = 0 then 4
  else if v / 10000 % 10 < 1 ∨ 8 < v / 10000 % 10 then 0 else if v / 100000 = 0 then 5 else 0
theorem nm_td {x : Int} (h : 0 ≤ x) : x.tdiv 10 = x / 10 := Int.tdiv_eq_ediv_of_nonneg h
theorem nm_tm {x : Int} (h : 0 ≤ x) : x.tmod 10 = x % 10 := Int.tmod_eq_emod_of_nonneg h
theorem nm_pc_step {d : Nat} {x0 v k : Int} {l : am_V} {M : am_M} {Q : List am_V → am_M → Prop} (hL : nm_Lay M) (hv : 0 ≤ v) (hv2 : v ≤ 2147483647) (hk : 0 ≤ k) (hk5 : k < 5) (hz : v = 0 → Q [(0, k)] M) (hb : 0 < v → (v % 10 < 1 ∨ 8 < v % 10) → Q [(0, 0)] M) (hn : 0 < v → ¬ (v % 10 < 1 ∨ 8 < v % 10) → am_WP d am_c50 4 [(0, x0), (0, v / 10), (0, k + 1), (0, v % 10)] [] M Q) : am_WP d am_c50 4 [(0, x0), (0, v), (0, k), l] [] M Q := by
  refine h_50_4 hL ?_
  rw [nm_td hv, nm_tm hv, am_w_id (x := v / 10) (by omega) (by omega), am_w_id (x := k + 1) (by omega) (by omega)]
  exact ⟨fun h => ⟨fun h' => absurd h' (by omega), fun h' => hz (by omega)⟩, fun h => ⟨fun h' => absurd h' (by omega), fun h' => ⟨fun h'' => hb (by omega) (.inl h''), fun h'' => ⟨fun h3 => hn (by omega) (by omega), fun h3 => hb (by omega) (by omega)⟩⟩⟩⟩
theorem nmc_50 {d : Nat} {v : Int} {M : am_M} {Q : List am_V → am_M → Prop} (hL : nm_Lay M) (hv2 : v ≤ 2147483647) (hQ : Q [(0, nm_pc v)] M) : am_CL d 50 [(0, v)] M Q := by
  refine h_50_0 hL ?_
  by_cases hv : v ≤ 0
  · unfold nm_pc at hQ; rw [if_pos hv] at hQ
    exact h_50_4 hL ⟨fun h => ⟨fun _ => hQ, fun _ => hQ⟩, fun h => absurd hv h⟩
  unfold nm_pc at hQ; rw [if_neg hv] at hQ
  refine nm_pc_step hL (by omega) hv2 (by decide) (by decide) (fun h => absurd h (by omega)) (fun _ h => by rw [if_pos h] at hQ; exact hQ) (fun _ h => ?_)
  rw [if_neg h] at hQ
  refine nm_pc_step hL (by omega) (by omega) (by decide) (by decide) (fun h => by rw [if_pos h] at hQ; exact hQ) (fun h1 h => by rw [if_neg (by omega), if_pos h] at hQ; exact hQ) (fun h1 h => ?_)
  rw [if_neg (by omega), if_neg h] at hQ
  rw [show v / 10 / 10 = v / 100 by omega]
  refine nm_pc_step hL (by omega) (by omega) (by decide) (by decide) (fun h => by rw [if_pos h] at hQ; exact hQ) (fun h1 h => by rw [if_neg (by omega), if_pos h] at hQ; exact hQ) (fun h1 h => ?_)
  rw [if_neg (by omega), if_neg h] at hQ
  rw [show v / 100 / 10 = v / 1000 by omega]
  refine nm_pc_step hL (by omega) (by omega) (by decide) (by decide) (fun h => by rw [if_pos h] at hQ; exact hQ) (fun h1 h => by rw [if_neg (by omega), if_pos h] at hQ; exact hQ) (fun h1 h => ?_)
  rw [if_neg (by omega), if_neg h] at hQ
  rw [show v / 1000 / 10 = v / 10000 by omega]
  refine nm_pc_step hL (by omega) (by omega) (by decide) (by decide) (fun h => by rw [if_pos h] at hQ; exact hQ) (fun h1 h => by rw [if_neg (by omega), if_pos h] at hQ; exact hQ) (fun h1 h => ?_)
  rw [if_neg (by omega), if_neg h] at hQ
  rw [show v / 10000 / 10 = v / 100000 by omega]
  refine h_50_4 hL ⟨fun h => ⟨fun h' => absurd h' (by omega), fun h' => by rw [if_pos (by omega)] at hQ; exact hQ⟩, fun h => ⟨fun _ => ⟨fun h' => by rw [if_neg (by omega)] at hQ; exact hQ, fun h' => absurd h' (by omega)⟩, fun h' => absurd h' (by decide)⟩⟩
/-- the digits of a number written from place k - 1 down to 0 behind b -/
def nm_dg (b : Int) : Nat → Int → (Int → Int) → (Int → Int)
  | 0, _, S => S
  | k + 1, v, S => nm_dg b k (v / 10) (nm_up S (b + (k : Int)) (v % 10 - 1))
/-- one mirror more -/
def nm_addS (S : Int → Int) (v n bend : Int) : Int → Int := nm_up (nm_up (nm_up (nm_up (nm_dg (35 + 5 * S 0) n.toNat v S) (29 + S 0) n) (65 + S 0) bend) (71 + S 0) 0) 0 (S 0 + 1)
theorem nm_dg_ne {b : Int} {j : Int} : ∀ {k : Nat} {v : Int} {S : Int → Int}, (j < b ∨ b + (k : Int) ≤ j) → nm_dg b k v S j = S j
  | 0, _, _, _ => rfl
  | k + 1, v, S, h => by
    show nm_dg b k (v / 10) (nm_up S (b + (k : Int)) (v % 10 - 1)) j = S j
    rw [nm_dg_ne (by omega), nm_up_ne (by omega)]
theorem nmc_115 {d : Nat} {v n bend sil : Int} {S : Int → Int} {W : nm_W} {M : am_M} {Q : List am_V → am_M → Prop} (hL : nm_Lay M) (hS : nm_CS M 1 S) (hW : nm_CW M 11 W) (h0 : 0 ≤ S 0) (h6 : S 0 < 6) (hv : 0 ≤ v) (hv2 : v ≤ 2147483647) (hn : 0 ≤ n) (hn5 : n ≤ 5) (hQ : ∀ M', nm_Fr (nm_Sg 1 ++ nm_Wg 11) M M' → nm_CS M' 1 (nm_addS S v n bend) → nm_CW M' 11 (W.1, W.2.1, nm_up W.2.2.1 (S 0) sil, W.2.2.2) → Q [] M') : am_CL d 115 [(2, 1), (0, v), (0, n), (0, bend), (0, sil)] M Q := by
  have lay : ∀ {M'}, nm_Fr (nm_Sg 1 ++ nm_Wg 11) M M' → nm_Lay M' := fun F => nm_Lay_fr hL F (by decide +kernel)
  refine h_115_0 hL ?_
  rw [am_w_id (by omega) (by omega)]
  have key : ∀ k : Nat, (k : Int) ≤ n → ∀ (rest : Int) (M1 : am_M) (S1 : Int → Int), 0 ≤ rest → rest ≤ 2147483647 → nm_Fr (nm_Sg 1 ++ nm_Wg 11) M M1 → nm_CS M1 1 S1 → nm_CW M1 11 W → S1 0 = S 0 → nm_dg (35 + 5 * S 0) k rest S1 = nm_dg (35 + 5 * S 0) n.toNat v S → am_WP d am_c115 8 [(2, 1), (0, v), (0, n), (0, bend), (0, sil), (0, rest), (0, (k : Int) - 1)] [] M1 Q := by
    intro k
    induction k with
    | zero =>
      intro hk rest M1 S1 r0 r1 F C1 W1 e0 e
      have c0 := nm_s0 C1
      refine h_115_8 (lay F) ⟨fun _ => ?_, fun h => absurd h (by decide)⟩
      rw [c0, e0]
      refine ⟨h0, h6, ?_⟩
      have F2 := nm_Fr_st (a := 2) (i := S 0) (v := n) F (nm_in_c (lo := 0) (hi := 6) (by decide) h0 h6)
      have C2 := nm_CS_up (b := 1) (a := 2) (i := S 0) (j := 29 + S 0) (v := n) C1 (by unfold nm_ci; omega)
      have W2 := nm_CW_fr W1 (lay F) (w := 11) (by decide) (nm_Fr_st (a := 2) (i := S 0) (v := n) (nm_Fg_refl [(2, 0, 6)] M1) (nm_in_c (lo := 0) (hi := 6) (by decide) h0 h6)) (by decide)
      have z2 : nm_up S1 (29 + S 0) n 0 = S 0 := by rw [nm_up_ne (by omega)]; exact e0
      refine h_115_57 (lay F2) ?_
      rw [nm_s0 C2, z2]
      refine ⟨h0, h6, ?_⟩
      have F3 := nm_Fr_st (a := 4) (i := S 0) (v := bend) F2 (nm_in_c (lo := 0) (hi := 6) (by decide) h0 h6)
      have C3 := nm_CS_up (b := 1) (a := 4) (i := S 0) (j := 65 + S 0) (v := bend) C2 (by unfold nm_ci; omega)
      have W3 := nm_CW_fr W2 (lay F2) (w := 11) (by decide) (nm_Fr_st (a := 4) (i := S 0) (v := bend) (nm_Fg_refl [(4, 0, 6)] _) (nm_in_c (lo := 0) (hi := 6) (by decide) h0 h6)) (by decide)
      have z3 : nm_up (nm_up S1 (29 + S 0) n) (65 + S 0) bend 0 = S 0 := by rw [nm_up_ne (by omega)]; exact z2
      refine h_115_67 (lay F3) ?_
      rw [nm_s0 C3, z3]
      refine ⟨h0, h6, ?_⟩
      have F4 := nm_Fr_st (a := 5) (i := S 0) (v := 0) F3 (nm_in_c (lo := 0) (hi := 6) (by decide) h0 h6)
      have C4 := nm_CS_up (b := 1) (a := 5) (i := S 0) (j := 71 + S 0) (v := 0) C3 (by unfold nm_ci; omega)
      have W4 := nm_CW_fr W3 (lay F3) (w := 11) (by decide) (nm_Fr_st (a := 5) (i := S 0) (v := 0) (nm_Fg_refl [(5, 0, 6)] _) (nm_in_c (lo := 0) (hi := 6) (by decide) h0 h6)) (by decide)
      have z4 : nm_up (nm_up (nm_up S1 (29 + S 0) n) (65 + S 0) bend) (71 + S 0) 0 0 = S 0 := by rw [nm_up_ne (by omega)]; exact z3
      refine h_115_77 (lay F4) ?_
      rw [nm_s0 C4, z4]
      refine ⟨h0, h6, ?_⟩
      rw [am_w_id (by omega) (by omega)]
      have F5 := nm_Fr_st (a := 13) (i := S 0) (v := sil) F4 (nm_in_c (lo := 0) (hi := 6) (by decide) h0 h6)
      have F6 := nm_Fr_st (a := 1) (i := 0) (v := S 0 + 1) F5 (by decide)
      have C5 := nm_CS_fr C4 (lay F4) (by decide) (nm_Fr_st (a := 13) (i := S 0) (v := sil) (nm_Fg_refl [(13, 0, 6)] _) (nm_in_c (lo := 0) (hi := 6) (by decide) h0 h6)) (by decide)
      have C6 := nm_CS_up (b := 1) (a := 1) (i := 0) (j := 0) (v := S 0 + 1) C5 (by unfold nm_ci; omega)
      have W5 := nm_CW_s (m := S 0) (v := sil) W4
      have W6 := nm_CW_fr W5 (lay F5) (w := 11) (by decide) (nm_Fr_st (a := 1) (i := 0) (v := S 0 + 1) (nm_Fg_refl [(1, 0, 1)] _) (by decide)) (by decide)
      refine hQ _ F6 ?_ W6
      unfold nm_addS
      rw [← e]
      exact C6
    | succ k ih =>
      intro hk rest M1 S1 r0 r1 F C1 W1 e0 e
      have c0 := nm_s0 C1
      refine h_115_8 (lay F) ⟨fun h => absurd h (by omega), fun _ => ?_⟩
      rw [c0, e0, am_w_id (x := S 0 * 5) (by omega) (by omega), am_w_id (x := S 0 * 5 + _) (by omega) (by omega), nm_td r0, nm_tm r0, am_w_id (x := rest / 10) (by omega) (by omega), am_w_id (x := rest % 10 - 1) (by omega) (by omega), am_w_id (x := _ + -1) (by omega) (by omega)]
      refine ⟨by omega, by omega, ?_⟩
      have hx : S 0 * 5 + (((k + 1 : Nat) : Int) - 1) = 5 * S 0 + (k : Int) := by omega
      have hy : ((k + 1 : Nat) : Int) - 1 + -1 = (k : Int) - 1 := by omega
      rw [hx, hy]
      refine ih (by omega) (rest / 10) _ (nm_up S1 (35 + (5 * S 0 + (k : Int))) (rest % 10 - 1)) (by omega) (by omega) (nm_Fr_st F (nm_in_c (a := 3) (lo := 0) (hi := 30) (by decide) (by omega) (by omega))) (nm_CS_up C1 (by unfold nm_ci; omega)) (nm_CW_fr W1 (lay F) (w := 11) (by decide) (nm_Fr_st (nm_Fg_refl [(3, 0, 30)] M1) (nm_in_c (lo := 0) (hi := 30) (by decide) (by omega) (by omega))) (by decide)) (by rw [nm_up_ne (by omega)]; exact e0) ?_
      rw [← e]
      show _ = nm_dg (35 + 5 * S 0) k (rest / 10) (nm_up S1 (35 + 5 * S 0 + (k : Int)) (rest % 10 - 1))
      rw [Int.add_assoc]
  have := key n.toNat (by omega) v M S hv hv2 (nm_Fg_refl _ _) hS hW rfl rfl
  rw [show ((n.toNat : Nat) : Int) - 1 = n - 1 by omega] at this
  exact this
theorem nmc_117 {d : Nat} {x y z : Int} {S : Int → Int} {M : am_M} {Q : List am_V → am_M → Prop} (hL : nm_Lay M) (hS : nm_CS M 1 S) (h0 : 0 ≤ S 1) (h8 : S 1 < 8) (hQ : ∀ M', nm_Fr (nm_Sg 1) M M' → nm_CS M' 1 (nm_up (nm_up (nm_up (nm_up S (85 + 3 * S 1) x) (86 + 3 * S 1) y) (87 + 3 * S 1) z) 1 (S 1 + 1)) → Q [] M') : am_CL d 117 [(2, 1), (0, x), (0, y), (0, z)] M Q := by
  have lay : ∀ {M'}, nm_Fr (nm_Sg 1) M M' → nm_Lay M' := fun F => nm_Lay_fr hL F (by decide +kernel)
  have F1 := nm_Fr_st (a := 7) (i := S 1) (v := x) (nm_Fg_refl (nm_Sg 1) M) (nm_in_c (lo := 0) (hi := 8) (by decide) h0 h8)
  have F2 := nm_Fr_st (a := 8) (i := S 1) (v := y) F1 (nm_in_c (lo := 0) (hi := 8) (by decide) h0 h8)
  have F3 := nm_Fr_st (a := 9) (i := S 1) (v := z) F2 (nm_in_c (lo := 0) (hi := 8) (by decide) h0 h8)
  have F4 := nm_Fr_st (a := 1) (i := 6) (v := S 1 + 1) F3 (by decide)
  have C1 := nm_CS_up (b := 1) (a := 7) (i := S 1) (j := 85 + 3 * S 1) (v := x) hS (by unfold nm_ci; omega)
  have C2 := nm_CS_up (b := 1) (a := 8) (i := S 1) (j := 86 + 3 * S 1) (v := y) C1 (by unfold nm_ci; omega)
  have C3 := nm_CS_up (b := 1) (a := 9) (i := S 1) (j := 87 + 3 * S 1) (v := z) C2 (by unfold nm_ci; omega)
  have C4 := nm_CS_up (b := 1) (a := 1) (i := 6) (j := 1) (v := S 1 + 1) C3 (by unfold nm_ci; omega)
  refine h_117_0 hL ?_
  rw [nm_s1 hS]
  refine ⟨h0, h8, h_117_10 (lay F1) ?_⟩
  rw [nm_s1 C1, nm_up_ne (by omega)]
  refine ⟨h0, h8, h_117_20 (lay F2) ?_⟩
  rw [nm_s1 C2, nm_up_ne (by omega), nm_up_ne (by omega), am_w_id (by omega) (by omega)]
  exact ⟨h0, h8, hQ _ F4 C4⟩
/-- a bit, and a bit set -/
def nm_bit (c k : Int) : Int := c / 2 ^ k.toNat % 2
def nm_setb (c k b : Int) : Int := c + (b - nm_bit c k) * 2 ^ k.toNat
theorem nm_bit_dec : ∀ c, c < 64 → ∀ k, k < 6 → am_and (am_shr ((c : Nat) : Int) ((k : Nat) : Int)) 1 = nm_bit (c : Int) (k : Int) := by decide +kernel
theorem nm_setb_dec : ∀ c, c < 64 → ∀ k, k < 6 → ∀ b, b < 2 → am_or (am_and ((c : Nat) : Int) (am_xor (am_shl 1 ((k : Nat) : Int)) (-1))) (am_shl ((b : Nat) : Int) ((k : Nat) : Int)) = nm_setb (c : Int) (k : Int) (b : Int) := by decide +kernel
theorem nm_nat {x : Int} {n : Nat} (h : 0 ≤ x) (h2 : x < (n : Int)) : ∃ k : Nat, k < n ∧ x = (k : Int) := ⟨x.toNat, by omega, by omega⟩
theorem nm_bit_and {c k : Int} (hc : 0 ≤ c) (hc2 : c ≤ 63) (hk : 0 ≤ k) (hk2 : k < 6) : am_and (am_shr c k) 1 = nm_bit c k := by
  obtain ⟨n, hn, rfl⟩ := nm_nat (n := 64) hc (by omega)
  obtain ⟨j, hj, rfl⟩ := nm_nat (n := 6) hk hk2
  exact nm_bit_dec n hn j hj
theorem nm_setb_or {c k b : Int} (hc : 0 ≤ c) (hc2 : c ≤ 63) (hk : 0 ≤ k) (hk2 : k < 6) (hb : 0 ≤ b) (hb2 : b ≤ 1) : am_or (am_and c (am_xor (am_shl 1 k) (-1))) (am_shl b k) = nm_setb c k b := by
  obtain ⟨n, hn, rfl⟩ := nm_nat (n := 64) hc (by omega)
  obtain ⟨j, hj, rfl⟩ := nm_nat (n := 6) hk hk2
  obtain ⟨i, hi, rfl⟩ := nm_nat (n := 2) hb (by omega)
  exact nm_setb_dec n hn j hj i hi
def nm_crS (S : Int → Int) (x y b : Int) : Int → Int := nm_up (nm_up S (71 + x) (nm_setb (S (71 + x)) y b)) (71 + y) (nm_setb (S (71 + y)) x b)
theorem nmc_118 {d : Nat} {x y b : Int} {S : Int → Int} {M : am_M} {Q : List am_V → am_M → Prop} (hL : nm_Lay M) (hS : nm_CS M 1 S) (hO : nm_okS S) (hx : 0 ≤ x) (hx6 : x < 6) (hy : 0 ≤ y) (hy6 : y < 6) (hne : x ≠ y) (hb : 0 ≤ b) (hb1 : b ≤ 1) (hQ : ∀ M', nm_Fr (nm_Sg 1) M M' → nm_CS M' 1 (nm_crS S x y b) → Q [] M') : am_CL d 118 [(2, 1), (0, x), (0, y), (0, b)] M Q := by
  have oc := hO.2.2.2.2.2.2.2.2.2.2.1
  have F1 := nm_Fr_st (a := 5) (i := x) (v := nm_setb (S (71 + x)) y b) (nm_Fg_refl (nm_Sg 1) M) (nm_in_c (lo := 0) (hi := 6) (by decide) hx hx6)
  have F2 := nm_Fr_st (a := 5) (i := y) (v := nm_setb (S (71 + y)) x b) F1 (nm_in_c (lo := 0) (hi := 6) (by decide) hy hy6)
  have C1 := nm_CS_up (b := 1) (a := 5) (i := x) (j := 71 + x) (v := nm_setb (S (71 + x)) y b) hS (by unfold nm_ci; omega)
  have C2 := nm_CS_up (b := 1) (a := 5) (i := y) (j := 71 + y) (v := nm_setb (S (71 + y)) x b) C1 (by unfold nm_ci; omega)
  refine h_118_0 hL ⟨hx, hx6, hy, hy6, ?_⟩
  rw [nm_scrack hS hx hx6, nm_setb_or (oc x hx hx6).1 (oc x hx hx6).2 hy hy6 hb hb1, nm_st_nj (fun h => hne h.symm), nm_scrack hS hy hy6, nm_setb_or (oc y hy hy6).1 (oc y hy hy6).2 hx hx6 hb hb1]
  exact hQ _ F2 C2
theorem nmc_120 {d : Nat} {k : Int} {S : Int → Int} {W : nm_W} {M : am_M} {Q : List am_V → am_M → Prop} (hL : nm_Lay M) (hS : nm_CS M 1 S) (hW : nm_CW M 11 W) (hQ : Q [(0, if k = 0 then W.1 else if 1 ≤ k ∧ k ≤ 3 then S (4 + k) else -1)] M) : am_CL d 120 [(2, 1), (0, k)] M Q := by
  refine h_120_0 hL ⟨fun h => ?_, fun h => ⟨fun h1 => ?_, fun h1 => ⟨fun h2 => ?_, fun h2 => ⟨fun h3 => ?_, fun h3 => ?_⟩⟩⟩⟩
  · rw [if_pos h] at hQ; rw [hW.1]; exact hQ
  · rw [if_neg h, if_pos (by omega), h1] at hQ; rw [nm_s5 hS]; exact hQ
  · rw [if_neg h, if_pos (by omega), h2] at hQ; rw [nm_s6 hS]; exact hQ
  · rw [if_neg h, if_pos (by omega), h3] at hQ; rw [nm_s7 hS]; exact hQ
  · rw [if_neg h, if_neg (by omega)] at hQ; exact hQ
/-- a term that can be -/
def nm_trm (k v : Int) : Prop := 0 ≤ v ∧ ((k = 0 ∧ v ≤ 999) ∨ (k = 1 ∧ v ≤ 10) ∨ (k = 2 ∧ v ≤ 9) ∨ (k = 3 ∧ 1 ≤ v ∧ v ≤ 8))
theorem nmc_121 {d : Nat} {k v : Int} {S : Int → Int} {W : nm_W} {M : am_M} {Q : List am_V → am_M → Prop} (hL : nm_Lay M) (hS : nm_CS M 1 S) (hW : nm_CW M 11 W) (hno : ¬ nm_trm k v → Q [(0, 0)] M) (hQ : ∀ M', nm_trm k v → nm_Fr (nm_Sg 1 ++ nm_Wg 11) M M' → nm_CS M' 1 (if k = 0 then S else nm_up S (4 + k) v) → nm_CW M' 11 (if k = 0 then v else W.1, W.2) → Q [(0, 1)] M') : am_CL d 121 [(2, 1), (0, k), (0, v)] M Q := by
  have up : ∀ i : Int, i = 10 ∨ i = 11 ∨ i = 12 → nm_trm k v → k + 9 = i → Q [(0, 1)] (am_st M 1 i v) := by
    intro i hi ht hk
    have hk0 : k ≠ 0 := by omega
    refine hQ _ ht (nm_Fr_st (nm_Fg_refl _ _) (nm_in_c (lo := 10) (hi := 14) (by decide) (by omega) (by omega))) ?_ ?_
    · rw [if_neg hk0]; exact nm_CS_up hS (by unfold nm_ci; omega)
    · rw [if_neg hk0]; exact nm_CW_fr hW hL (w := 11) (by decide) (nm_Fr_st (nm_Fg_refl [(1, 10, 14)] M) (nm_in_c (lo := 10) (hi := 14) (by decide) (by omega) (by omega))) (by decide)
  refine h_121_0 hL ⟨fun h => ?_, fun h => hno (by unfold nm_trm; omega)⟩
  have a47 : k ≠ 0 ∨ 999 < v → k ≠ 1 ∨ 10 < v → am_WP d am_c121 47 [(2, 1), (0, k), (0, v)] [] M Q := by
    intro c1 c2
    refine h_121_47 hL ⟨fun h2 => ⟨fun h3 => hno (by unfold nm_trm; omega), fun h3 => ⟨fun h4 => hno (by unfold nm_trm; omega), fun h4 => ⟨fun h5 => hno (by unfold nm_trm; omega), fun h5 => up 12 (by decide) (by unfold nm_trm; omega) (by omega)⟩⟩⟩, fun h2 => ⟨fun h3 => ⟨fun h4 => hno (by unfold nm_trm; omega), fun h4 => absurd h4 (by omega)⟩, fun h3 => up 11 (by decide) (by unfold nm_trm; omega) (by omega)⟩⟩
  have a28 : k ≠ 0 ∨ 999 < v → am_WP d am_c121 28 [(2, 1), (0, k), (0, v)] [] M Q := by
    intro c1
    exact h_121_28 hL ⟨fun h2 => a47 c1 (.inl h2), fun h2 => ⟨fun h3 => a47 c1 (.inr h3), fun h3 => up 10 (by decide) (by unfold nm_trm; omega) (by omega)⟩⟩
  refine ⟨fun h1 => a28 (.inl h1), fun h1 => ⟨fun h2 => a28 (.inr h2), fun h2 => ?_⟩⟩
  have hk : k = 0 := by omega
  refine hQ _ (by unfold nm_trm; omega) (nm_Fr_st (nm_Fg_refl _ _) (by decide)) ?_ ?_
  · rw [if_pos hk]; exact nm_CS_fr hS hL (by decide) (nm_Fr_st (nm_Fg_refl [(11, 0, 1)] M) (by decide)) (by decide)
  · rw [if_pos hk]; exact nm_CW_n hW
/-! WHAT IS KEPT UNDONE -/
theorem nm_WWdj {w v : Int} (hw : w ∈ nm_WL) (hv : v ∈ nm_WL) (h : w ≠ v) : nm_dj (nm_Wg w) (nm_Wg v) = true := by
  have := nm_Wall (P := fun v => decide (w = v) || nm_dj (nm_Wg w) (nm_Wg v)) (nm_Wall (P := fun w => nm_WL.all (fun v => decide (w = v) || nm_dj (nm_Wg w) (nm_Wg v))) (by decide +kernel) hw) hv
  rcases Bool.or_eq_true_iff.mp this with e | e
  · exact absurd (of_decide_eq_true e) h
  · exact e
def nm_W0 : nm_W := (0, [], fun _ => 0, fun _ => 0)
def nm_u0 : Int × nm_W := (0, nm_W0)
def nm_UL (u : Int) : List Int := (List.range 16).map (fun j : Nat => u + 3 + 4 * (j : Int))
def nm_Ug (u : Int) : nm_Rg := [(u, 0, 1), (u + 1, 0, 16), (u + 2, 0, 16)] ++ (nm_UL u).flatMap nm_Wg
def nm_CUp (M : am_M) (u : Int) : Prop := (∀ i, 0 ≤ i → i < 16 → am_gt M (u + 2) i ∈ nm_UL u) ∧ (∀ i j, 0 ≤ i → i < 16 → 0 ≤ j → j < 16 → am_gt M (u + 2) i = am_gt M (u + 2) j → i = j)
def nm_CU (M : am_M) (u : Int) (U : List (Int × nm_W)) : Prop := nm_CUp M u ∧ am_gt M u 0 = (U.length : Int) ∧ U.length ≤ 16 ∧ ∀ k : Nat, k < U.length → am_gt M (u + 1) (k : Int) = (U.getD k nm_u0).1 ∧ nm_CW M (am_gt M (u + 2) (k : Int)) (U.getD k nm_u0).2
theorem nm_ULWL {u : Int} (hu : u = 34 ∨ u = 101) {w : Int} (h : w ∈ nm_UL u) : w ∈ nm_WL := by
  rcases hu with rfl | rfl
  · exact of_decide_eq_true (List.all_eq_true.mp (show (nm_UL 34).all (fun w => decide (w ∈ nm_WL)) = true by decide +kernel) w h)
  · exact of_decide_eq_true (List.all_eq_true.mp (show (nm_UL 101).all (fun w => decide (w ∈ nm_WL)) = true by decide +kernel) w h)
theorem nm_Ug_W {u : Int} {w : Int} (h : w ∈ nm_UL u) {a i : Int} (hi : nm_in (nm_Wg w) a i = true) : nm_in (nm_Ug u) a i = true := by
  obtain ⟨q, hq, h1, h2, h3⟩ := nm_in_iff.mp hi
  refine nm_in_mem (q := q) ?_ h1 h2 h3
  unfold nm_Ug
  exact List.mem_append_right _ (List.mem_flatMap.mpr ⟨w, h, hq⟩)
theorem nm_Fr_Ug {u w : Int} {M M' M'' : am_M} (F : nm_Fr (nm_Ug u) M M') (h : w ∈ nm_UL u) (F' : nm_Fr (nm_Wg w) M' M'') : nm_Fr (nm_Ug u) M M'' := by
  refine nm_Fr_trans F ?_
  obtain ⟨a1, a2, a3, a4, a5⟩ := F'
  refine ⟨a1, a2, a3, a4, fun a i ha hi => a5 a i ha ?_⟩
  rw [Bool.eq_false_iff]
  intro hc
  rw [nm_Ug_W h hc] at hi
  cases hi
/-- a Works apart from all that are kept -/
theorem nm_UgW {u w : Int} (hu : u = 34 ∨ u = 101) (hw : w ∈ nm_WL) (hn : w ∉ nm_UL u) : nm_dj (nm_Ug u) (nm_Wg w) = true := by
  have key : nm_WL.all (fun w => decide (w ∈ nm_UL 34) || nm_dj (nm_Ug 34) (nm_Wg w)) = true ∧ nm_WL.all (fun w => decide (w ∈ nm_UL 101) || nm_dj (nm_Ug 101) (nm_Wg w)) = true := by decide +kernel
  rcases hu with rfl | rfl
  · rcases Bool.or_eq_true_iff.mp (nm_Wall key.1 hw) with e | e
    · exact absurd (of_decide_eq_true e) hn
    · exact e
  · rcases Bool.or_eq_true_iff.mp (nm_Wall key.2 hw) with e | e
    · exact absurd (of_decide_eq_true e) hn
    · exact e
theorem nm_LayU {u : Int} (hu : u = 34 ∨ u = 101) {M M' : am_M} (hL : nm_Lay M) (F : nm_Fr (nm_Ug u) M M') : nm_Lay M' := by
  rcases hu with rfl | rfl
  · exact nm_Lay_fr hL F (by decide +kernel)
  · exact nm_Lay_fr hL F (by decide +kernel)
theorem nm_CUp_kp {u : Int} {M M' : am_M} (h : nm_CUp M u) (hk : ∀ i, 0 ≤ i → i < 16 → am_gt M' (u + 2) i = am_gt M (u + 2) i) : nm_CUp M' u := by
  obtain ⟨h1, h2⟩ := h
  refine ⟨fun i a b => ?_, fun i j a b c e x => ?_⟩
  · rw [hk i a b]; exact h1 i a b
  · rw [hk i a b, hk j c e] at x; exact h2 i j a b c e x
theorem nm_CUp_fr {n s : Int} {f : nm_Rg} {u : Int} {M M' : am_M} (h : nm_CUp M u) (hL : nm_Lay M) (hu : u + 2 < 247) (hF : nm_Fg n s f M M') (hn : nm_no f (u + 2) = true) : nm_CUp M' u := nm_CUp_kp h (fun i _ _ => nm_gt_frn hF hL hu hn)
theorem nm_CU_fr {n s : Int} {f : nm_Rg} {u : Int} (hu : u = 34 ∨ u = 101) {M M' : am_M} {U : List (Int × nm_W)} (h : nm_CU M u U) (hL : nm_Lay M) (hF : nm_Fg n s f M M') (hd : nm_dj f (nm_Ug u) = true) : nm_CU M' u U := by
  obtain ⟨h1, h2, h3, h4⟩ := h
  have hb : u + 2 < 247 := by omega
  have kp : ∀ a i, a < 247 → nm_in (nm_Ug u) a i = true → am_gt M' a i = am_gt M a i := fun a i e c => nm_gt_frd hF hL e hd c
  have k2 : ∀ i, 0 ≤ i → i < 16 → am_gt M' (u + 2) i = am_gt M (u + 2) i := fun i a b => kp _ _ hb (nm_in_c (lo := 0) (hi := 16) (by unfold nm_Ug; simp only [List.mem_append, List.mem_cons, true_or, or_true]) a b)
  refine ⟨nm_CUp_kp h1 k2, ?_, h3, fun k hk => ?_⟩
  · rw [kp u 0 (by omega) (nm_in_c (lo := 0) (hi := 1) (by unfold nm_Ug; simp only [List.mem_append, List.mem_cons, true_or]) (by decide) (by decide))]; exact h2
  · obtain ⟨q1, q2⟩ := h4 k hk
    rw [k2 k (by omega) (by omega), kp (u + 1) k (by omega) (nm_in_c (lo := 0) (hi := 16) (by unfold nm_Ug; simp only [List.mem_append, List.mem_cons, true_or, or_true]) (by omega) (by omega))]
    have hm := h1.1 k (by omega) (by omega)
    refine ⟨q1, nm_CW_kp q2 (fun a i hi => kp a i ?_ (nm_Ug_W hm hi))⟩
    have hb := nm_Wb (nm_ULWL hu hm)
    obtain ⟨q, hq, e1, e2, e3⟩ := nm_in_iff.mp hi
    simp only [nm_Wg, List.mem_cons, List.not_mem_nil, or_false] at hq
    rcases hq with rfl | rfl | rfl | rfl <;> simp only at e1 <;> omega
theorem nm_getD_u {U : List (Int × nm_W)} {k : Nat} (hk : k < U.length) : U.getD k nm_u0 = U[k] := by rw [List.getD_eq_getElem?_getD, List.getElem?_eq_getElem hk]; rfl
/-- the oldest one dropped -/
theorem nmc_132 {d : Nat} {U : List (Int × nm_W)} {M : am_M} {Q : List am_V → am_M → Prop} (hL : nm_Lay M) (hU : nm_CU M 34 U) (h16 : U.length = 16) (hQ : ∀ M', nm_Fr (nm_Ug 34) M M' → nm_CU M' 34 (U.drop 1) → Q [] M') : am_CL d 132 [(2, 34)] M Q := by
  obtain ⟨⟨p1, p2⟩, u0, u1, u2⟩ := hU
  have wl : ∀ i, 0 ≤ i → i < 16 → am_gt M 36 i ∈ nm_WL := fun i a b => nm_ULWL (.inl rfl) (p1 i a b)
  have kd : ∀ {M1 : am_M} i, 0 ≤ i → i < 16 → nm_Fr [(35, 0, 16), (36, 0, 16)] M M1 → am_kd M1 (am_gt M 36 i) = 7 := fun i a b F => nm_Wk (nm_Lay_fr hL F (by decide +kernel)) (wl i a b)
  refine h_132_0 hL ?_
  have key : ∀ k : Nat, k ≤ 15 → ∀ M1, nm_Fr [(35, 0, 16), (36, 0, 16)] M M1 → (∀ j, 0 ≤ j → j < 16 → am_gt M1 36 j = if j < (k : Int) then am_gt M 36 (j + 1) else am_gt M 36 j) → (∀ j, 0 ≤ j → j < 16 → am_gt M1 35 j = if j < (k : Int) then am_gt M 35 (j + 1) else am_gt M 35 j) → am_WP d am_c132 9 [(2, 34), (2, am_gt M 36 0), (0, (k : Int) + 1)] [] M1 Q := by
    refine nm_dn ?_
    intro k hk ih M1 F a1 a2
    have hL1 := nm_Lay_fr hL F (by decide +kernel)
    refine h_132_9 hL1 ⟨fun h => ⟨.inr (kd 0 (by decide) (by decide) F), ?_⟩, fun h => ?_⟩
    · have hk15 : k = 15 := by omega
      subst hk15
      have FF : nm_Fr (nm_Ug 34) M (am_st (am_st M1 36 15 (am_gt M 36 0)) 34 0 15) := nm_Fr_st (nm_Fr_st (nm_Fr_sub F (by decide +kernel)) (by decide +kernel)) (by decide +kernel)
      have g36 : ∀ j, 0 ≤ j → j < 16 → am_gt (am_st (am_st M1 36 15 (am_gt M 36 0)) 34 0 15) 36 j = if j < 15 then am_gt M 36 (j + 1) else am_gt M 36 0 := by
        intro j j0 j1
        rw [nm_st_ne (by decide), nm_gt_st]
        by_cases hj : j = 15
        · subst hj; rw [if_pos ⟨rfl, rfl⟩, if_neg (by decide)]
        · rw [if_neg (fun c => hj c.2), a1 j j0 j1, if_pos (by omega), if_pos (by omega)]
      refine hQ _ FF ⟨⟨fun i x y => ?_, fun i j x y x' y' e => ?_⟩, ?_, ?_, fun i hi => ?_⟩
      · show am_gt _ 36 i ∈ _
        rw [g36 i x y]
        by_cases hi : i < 15
        · rw [if_pos hi]; exact p1 _ (by omega) (by omega)
        · rw [if_neg hi]; exact p1 _ (by decide) (by decide)
      · have e' : am_gt (am_st (am_st M1 36 15 (am_gt M 36 0)) 34 0 15) 36 i = am_gt (am_st (am_st M1 36 15 (am_gt M 36 0)) 34 0 15) 36 j := e
        rw [g36 i x y, g36 j x' y'] at e'
        by_cases hi : i < 15 <;> by_cases hj : j < 15
        · rw [if_pos hi, if_pos hj] at e'; have := p2 (i + 1) (j + 1) (by omega) (by omega) (by omega) (by omega) e'; omega
        · rw [if_pos hi, if_neg hj] at e'; have := p2 (i + 1) 0 (by omega) (by omega) (by omega) (by omega) e'; omega
        · rw [if_neg hi, if_pos hj] at e'; have := p2 0 (j + 1) (by omega) (by omega) (by omega) (by omega) e'; omega
        · omega
      · rw [nm_st_eq, List.length_drop, h16]; rfl
      · rw [List.length_drop]; omega
      · rw [List.length_drop, h16] at hi
        show am_gt _ 35 _ = _ ∧ nm_CW _ (am_gt _ 36 _) _
        have hx : (U.drop 1).getD i nm_u0 = U.getD (i + 1) nm_u0 := by
          rw [List.getD_eq_getElem?_getD, List.getElem?_drop, List.getD_eq_getElem?_getD, Nat.add_comm 1 i]
        obtain ⟨q1, q2⟩ := u2 (i + 1) (by omega)
        rw [g36 i (by omega) (by omega), if_pos (by omega), hx, nm_st_ne (by decide), nm_st_ne (by decide), a2 i (by omega) (by omega), if_pos (by omega)]
        have hci : ((i + 1 : Nat) : Int) = (i : Int) + 1 := by omega
        rw [hci] at q1 q2
        refine ⟨q1, ?_⟩
        have F3 : nm_Fr [(34, 0, 1), (35, 0, 16), (36, 0, 16)] M (am_st (am_st M1 36 15 (am_gt M 36 0)) 34 0 15) := nm_Fr_st (nm_Fr_st (nm_Fr_sub F (by decide)) (by decide)) (by decide)
        exact nm_CW_fr q2 hL (wl _ (by omega) (by omega)) F3 (nm_Wall (P := fun w => nm_dj [(34, 0, 1), (35, 0, 16), (36, 0, 16)] (nm_Wg w)) (by decide +kernel) (wl _ (by omega) (by omega)))
    · have hk15 : k < 15 := by omega
      rw [am_w_id (x := (k : Int) + 1 - 1) (by omega) (by omega), am_w_id (x := (k : Int) + 1 + 1) (by omega) (by omega), show (k : Int) + 1 - 1 = (k : Int) by omega]
      have e1 : am_gt M1 36 ((k : Int) + 1) = am_gt M 36 ((k : Int) + 1) := by rw [a1 _ (by omega) (by omega), if_neg (by omega)]
      have e2 : am_gt M1 35 ((k : Int) + 1) = am_gt M 35 ((k : Int) + 1) := by rw [a2 _ (by omega) (by omega), if_neg (by omega)]
      rw [e1, e2]
      refine ⟨by omega, by omega, by omega, by omega, .inr (kd _ (by omega) (by omega) F), ?_⟩
      have hc : ((k + 1 : Nat) : Int) = (k : Int) + 1 := by omega
      have := ih hk15 (am_st (am_st M1 36 (k : Int) (am_gt M 36 ((k : Int) + 1))) 35 (k : Int) (am_gt M 35 ((k : Int) + 1))) (nm_Fr_st (nm_Fr_st F (nm_in_c (lo := 0) (hi := 16) (by decide) (by omega) (by omega))) (nm_in_c (lo := 0) (hi := 16) (by decide) (by omega) (by omega))) (fun j j0 j1 => by
        rw [nm_st_ne (by decide), nm_gt_st]
        by_cases hj : j = (k : Int)
        · subst hj; rw [if_pos ⟨rfl, rfl⟩, if_pos (by omega)]
        · rw [if_neg (fun c => hj c.2), a1 j j0 j1]
          by_cases h2 : j < (k : Int)
          · rw [if_pos h2, if_pos (by omega)]
          · rw [if_neg h2, if_neg (by omega)]) (fun j j0 j1 => by
        rw [nm_gt_st]
        by_cases hj : j = (k : Int)
        · subst hj; rw [if_pos ⟨rfl, rfl⟩, if_pos (by omega)]
        · rw [if_neg (fun c => hj c.2), nm_st_ne (by decide), a2 j j0 j1]
          by_cases h2 : j < (k : Int)
          · rw [if_pos h2, if_pos (by omega)]
          · rw [if_neg h2, if_neg (by omega)])
      rw [hc] at this
      exact this
  exact key 0 (Nat.zero_le _) M (nm_Fg_refl _ _) (fun j j0 _ => by rw [if_neg (by omega)]) (fun j j0 _ => by rw [if_neg (by omega)])
/-- one more is kept -/
def nm_keep (U : List (Int × nm_W)) (k : Int) (W : nm_W) : List (Int × nm_W) := (if U.length = 16 then U.drop 1 else U) ++ [(k, W)]
theorem nmc_131 {d : Nat} {kind : Int} {W : nm_W} {U : List (Int × nm_W)} {M : am_M} {Q : List am_V → am_M → Prop} (hd : 2 ≤ d) (hL : nm_Lay M) (hU : nm_CU M 34 U) (hW : nm_CW M 168 W) (hQ : ∀ M', nm_Fr (nm_Ug 34) M M' → nm_CU M' 34 (nm_keep U kind W) → Q [] M') : am_CL d 131 [(2, 34), (0, kind), (2, 168)] M Q := by
  have w168 : (168 : Int) ∈ nm_WL := by decide
  have fin : ∀ (M1 : am_M) (U1 : List (Int × nm_W)), nm_Fr (nm_Ug 34) M M1 → nm_CU M1 34 U1 → U1.length < 16 → nm_keep U kind W = U1 ++ [(kind, W)] → am_WP d am_c131 13 [(2, 34), (0, kind), (2, 168)] [] M1 Q := by
    intro M1 U1 F hU1 hl ek
    have hL1 := nm_LayU (.inl rfl) hL F
    have hW1 := nm_CW_fr hW hL w168 F (nm_UgW (.inl rfl) w168 (by decide))
    have hU1' := hU1
    obtain ⟨⟨p1, p2⟩, u0, u1, u2⟩ := hU1
    have hm := p1 (U1.length : Int) (by omega) (by omega)
    have hmW := nm_ULWL (.inl rfl) hm
    have hm168 : am_gt M1 36 (U1.length : Int) ≠ 168 := fun e => absurd (show (168 : Int) ∈ nm_UL 34 from e ▸ hm) (by decide)
    have F2 : nm_Fr (nm_Ug 34) M1 (am_st M1 35 (U1.length : Int) kind) := nm_Fr_st (nm_Fg_refl _ _) (nm_in_c (lo := 0) (hi := 16) (by decide +kernel) (by omega) (by omega))
    have F2' : nm_Fr [(35, 0, 16)] M1 (am_st M1 35 (U1.length : Int) kind) := nm_Fr_st (nm_Fg_refl _ _) (nm_in_c (lo := 0) (hi := 16) (by decide) (by omega) (by omega))
    have hL2 := nm_LayU (.inl rfl) hL1 F2
    have hW2 := nm_CW_fr hW1 hL1 w168 F2' (by decide)
    refine h_131_13 hL1 w168 ?_
    rw [u0]
    refine ⟨by omega, by omega, nm_Wk hL2 hmW, by omega, nmc_136 (by omega) hL2 hmW w168 hm168 hW2 (fun M3 F3 hW3 => ?_)⟩
    have F13 := nm_Fr_Ug F2 hm F3
    have hL3 := nm_LayU (.inl rfl) hL1 F13
    have no3 : ∀ c, c = 34 ∨ c = 35 ∨ c = 36 → nm_no (nm_Wg (am_gt M1 36 (U1.length : Int))) c = true := by
      intro c hc
      rcases hc with rfl | rfl | rfl
      · exact nm_Wall (P := fun w => nm_no (nm_Wg w) 34) (by decide +kernel) hmW
      · exact nm_Wall (P := fun w => nm_no (nm_Wg w) 35) (by decide +kernel) hmW
      · exact nm_Wall (P := fun w => nm_no (nm_Wg w) 36) (by decide +kernel) hmW
    have g34 : am_gt M3 34 0 = (U1.length : Int) := by rw [nm_gt_frn F3 hL2 (by decide) (no3 34 (.inl rfl)), nm_st_ne (by decide)]; exact u0
    have g36 : ∀ j, am_gt M3 36 j = am_gt M1 36 j := fun j => by rw [nm_gt_frn F3 hL2 (by decide) (no3 36 (.inr (.inr rfl))), nm_st_ne (by decide)]
    have g35 : ∀ j, am_gt M3 35 j = if j = (U1.length : Int) then kind else am_gt M1 35 j := fun j => by
      rw [nm_gt_frn F3 hL2 (by decide) (no3 35 (.inr (.inl rfl))), nm_gt_st]
      by_cases hj : j = (U1.length : Int)
      · rw [if_pos ⟨rfl, hj⟩, if_pos hj]
      · rw [if_neg (fun c => hj c.2), if_neg hj]
    refine h_131_36 hL3 w168 ?_
    rw [g34, am_w_id (by omega) (by omega)]
    have F4 : nm_Fr (nm_Ug 34) M (am_st M3 34 0 ((U1.length : Int) + 1)) := nm_Fr_st (nm_Fr_trans F F13) (by decide +kernel)
    refine hQ _ F4 ?_
    rw [ek]
    have hlen : (U1 ++ [(kind, W)]).length = U1.length + 1 := by rw [List.length_append]; rfl
    have F34 : nm_Fr [(34, 0, 1)] M3 (am_st M3 34 0 ((U1.length : Int) + 1)) := nm_Fr_st (nm_Fg_refl _ _) (by decide)
    refine ⟨⟨fun i x y => ?_, fun i j x y x' y' e => ?_⟩, ?_, by omega, fun k hk => ?_⟩
    · show am_gt (am_st M3 34 0 _) 36 i ∈ _
      rw [nm_st_ne (by decide), g36]; exact p1 i x y
    · have e' : am_gt (am_st M3 34 0 ((U1.length : Int) + 1)) 36 i = am_gt (am_st M3 34 0 ((U1.length : Int) + 1)) 36 j := e
      rw [nm_st_ne (by decide), nm_st_ne (by decide), g36, g36] at e'
      exact p2 i j x y x' y' e'
    · rw [nm_st_eq, hlen]; omega
    · rw [hlen] at hk
      show am_gt (am_st M3 34 0 _) 35 _ = _ ∧ nm_CW _ (am_gt (am_st M3 34 0 _) 36 _) _
      rw [nm_st_ne (by decide), nm_st_ne (by decide), g36, g35]
      have hkW := nm_ULWL (.inl rfl) (p1 (k : Int) (by omega) (by omega))
      have d34 := nm_Wall (P := fun w => nm_dj [(34, 0, 1)] (nm_Wg w)) (by decide +kernel) hkW
      by_cases hkl : k = U1.length
      · have hx : (U1 ++ [(kind, W)]).getD k nm_u0 = (kind, W) := by rw [hkl, List.getD_eq_getElem?_getD, List.getElem?_concat_length]; rfl
        rw [hx, if_pos (by omega)]
        refine ⟨rfl, nm_CW_fr ?_ hL3 hkW F34 d34⟩
        rw [hkl]; exact hW3
      · have hx : (U1 ++ [(kind, W)]).getD k nm_u0 = U1.getD k nm_u0 := by rw [List.getD_eq_getElem?_getD, List.getD_eq_getElem?_getD, List.getElem?_append_left (by omega)]
        rw [hx, if_neg (by omega)]
        obtain ⟨q1, q2⟩ := u2 k (by omega)
        refine ⟨q1, nm_CW_fr (nm_CW_fr (nm_CW_fr q2 hL1 hkW F2' (nm_Wall (P := fun w => nm_dj [(35, 0, 16)] (nm_Wg w)) (by decide +kernel) hkW)) hL2 hkW F3 (nm_WWdj hmW hkW (fun e => ?_))) hL3 hkW F34 d34⟩
        have := p2 (U1.length : Int) (k : Int) (by omega) (by omega) (by omega) (by omega) e
        omega
  have hlen := hU.2.2.1
  refine h_131_0 hL w168 ⟨fun h => ?_, fun h => ⟨by omega, nmc_132 hL hU ?_ (fun M1 F1 U1 => ?_)⟩⟩
  · rw [hU.2.1] at h
    exact fin M U (nm_Fg_refl _ _) hU (by omega) (by unfold nm_keep; rw [if_neg (by omega)])
  · rw [hU.2.1] at h; omega
  · rw [hU.2.1] at h
    exact fin M1 (U.drop 1) F1 U1 (by rw [List.length_drop]; omega) (by unfold nm_keep; rw [if_pos (by omega)])
/-- the newest one brought again -/
theorem nmc_133 {d : Nat} {U : List (Int × nm_W)} {M : am_M} {Q : List am_V → am_M → Prop} (hd : 2 ≤ d) (hL : nm_Lay M) (hU : nm_CU M 34 U) (h0 : U = [] → Q [(0, -1)] M) (hQ : ∀ U0 k W M', U = U0 ++ [(k, W)] → nm_Fr ([(34, 0, 1)] ++ nm_Wg 11) M M' → nm_CU M' 34 U0 → nm_CW M' 11 W → Q [(0, k)] M') : am_CL d 133 [(2, 34), (2, 11)] M Q := by
  have w11 : (11 : Int) ∈ nm_WL := by decide
  have hU' := hU
  obtain ⟨⟨p1, p2⟩, u0, u1, u2⟩ := hU
  refine h_133_0 hL w11 ⟨fun h => ?_, fun h => h0 (List.eq_nil_of_length_eq_zero (by omega))⟩
  rw [u0] at h ⊢
  obtain ⟨n, hn⟩ : ∃ n, U.length = n + 1 := ⟨U.length - 1, by omega⟩
  rw [am_w_id (by omega) (by omega), show (U.length : Int) - 1 = (n : Int) by omega]
  have F1 : nm_Fr ([(34, 0, 1)] ++ nm_Wg 11) M (am_st M 34 0 (n : Int)) := nm_Fr_st (nm_Fg_refl _ _) (by decide)
  have F1' : nm_Fr [(34, 0, 1)] M (am_st M 34 0 (n : Int)) := nm_Fr_st (nm_Fg_refl _ _) (by decide)
  have hL1 := nm_Lay_fr hL F1' (by decide +kernel)
  have hm := p1 (n : Int) (by omega) (by omega)
  have hmW := nm_ULWL (.inl rfl) hm
  obtain ⟨q1, q2⟩ := u2 n (by omega)
  have q2' := nm_CW_fr q2 hL hmW F1' (nm_Wall (P := fun w => nm_dj [(34, 0, 1)] (nm_Wg w)) (by decide +kernel) hmW)
  have hne : (11 : Int) ≠ am_gt M 36 (n : Int) := fun e => absurd (show (11 : Int) ∈ nm_UL 34 from e ▸ hm) (by decide)
  refine ⟨by omega, by omega, by omega, nmc_136 (by omega) hL1 w11 hmW hne q2' (fun M2 F2 hW2 => ?_)⟩
  have hL2 := nm_Lay_fr hL1 F2 (by decide +kernel)
  have g34 : am_gt M2 34 0 = (n : Int) := by rw [nm_gt_frn F2 hL1 (by decide) (by decide), nm_st_eq]
  refine h_133_32 hL2 w11 ?_
  rw [g34, nm_gt_frn F2 hL1 (by decide) (by decide), nm_st_ne (by decide)]
  have q1' : am_gt M 35 (n : Int) = _ := q1
  rw [q1']
  refine ⟨by omega, by omega, ?_⟩
  have hU0 : U = U.take n ++ [U.getD n nm_u0] := by
    rw [nm_getD_u (by omega), List.take_append_getElem, List.take_of_length_le (by omega)]
  refine hQ (U.take n) (U.getD n nm_u0).1 (U.getD n nm_u0).2 M2 hU0 (nm_Fr_trans F1 (nm_Fr_appr F2)) ?_ hW2
  have U1 : nm_CU (am_st M 34 0 (n : Int)) 34 (U.take n) := by
    refine ⟨⟨fun i x y => ?_, fun i j x y x' y' e => ?_⟩, ?_, ?_, fun k hk => ?_⟩
    · rw [nm_st_ne (by decide)]; exact p1 i x y
    · rw [nm_st_ne (by decide), nm_st_ne (by decide)] at e; exact p2 i j x y x' y' e
    · rw [nm_st_eq, List.length_take]; omega
    · rw [List.length_take]; omega
    · rw [List.length_take] at hk
      obtain ⟨r1, r2⟩ := u2 k (by omega)
      have hkW := nm_ULWL (.inl rfl) (p1 (k : Int) (by omega) (by omega))
      have hx : (U.take n).getD k nm_u0 = U.getD k nm_u0 := by rw [List.getD_eq_getElem?_getD, List.getElem?_take, if_pos (by omega), List.getD_eq_getElem?_getD]
      rw [hx, nm_st_ne (by decide), nm_st_ne (by decide)]
      exact ⟨r1, nm_CW_fr r2 hL hkW F1' (nm_Wall (P := fun w => nm_dj [(34, 0, 1)] (nm_Wg w)) (by decide +kernel) hkW)⟩
  exact nm_CU_fr (.inl rfl) U1 hL1 F2 (by decide +kernel)
theorem nmc_134_101 {d : Nat} {U : List (Int × nm_W)} {M : am_M} {Q : List am_V → am_M → Prop} (hd : 2 ≤ d) (hL : nm_Lay M) (hU : nm_CU M 34 U) (hP : nm_CUp M 101) (hQ : ∀ M', nm_Fr (nm_Ug 101) M M' → nm_CU M' 101 U → Q [] M') : am_CL d 134 [(2, 101), (2, 34)] M Q := by
  have hu : (101 : Int) = 34 ∨ (101 : Int) = 101 := by decide
  have hv : (34 : Int) = 34 ∨ (34 : Int) = 101 := by decide
  have hU0 := hU
  obtain ⟨-, u0, u1, -⟩ := hU
  refine h_101_34_134_0 hL ?_
  rw [u0]
  have key : ∀ k : Nat, k ≤ U.length → ∀ M1, nm_Fr (nm_Ug 101) M M1 → am_gt M1 101 0 = (U.length : Int) → (∀ j, am_gt M1 103 j = am_gt M 103 j) → (∀ i : Nat, i < k → am_gt M1 102 (i : Int) = (U.getD i nm_u0).1 ∧ nm_CW M1 (am_gt M 103 (i : Int)) (U.getD i nm_u0).2) → am_WP d am_c134 10 [(2, 101), (2, 34), (0, (k : Int))] [] M1 Q := by
    refine nm_dn ?_
    intro k hk ih M1 F a0 a2 a3
    have hL1 := nm_LayU hu hL F
    have hV1 := nm_CU_fr hv hU0 hL F (by decide +kernel)
    refine h_101_34_134_10 hL1 ?_
    rw [a0]
    refine ⟨fun h => ?_, fun h => ?_⟩
    · refine hQ M1 F ⟨nm_CUp_kp hP (fun i _ _ => a2 i), a0, u1, fun i hi => ?_⟩
      show am_gt M1 102 _ = _ ∧ nm_CW M1 (am_gt M1 103 _) _
      rw [a2]; exact a3 i (by omega)
    · have hkl : k < U.length := by omega
      obtain ⟨⟨v1, v2⟩, -, -, v4⟩ := hV1
      obtain ⟨q1, q2⟩ := v4 k hkl
      have hm := hP.1 (k : Int) (by omega) (by omega)
      have hm : am_gt M 103 (k : Int) ∈ nm_UL 101 := hm
      have hmW := nm_ULWL hu hm
      have hs := v1 (k : Int) (by omega) (by omega)
      have hs : am_gt M1 36 (k : Int) ∈ nm_UL 34 := hs
      have hsW := nm_ULWL hv hs
      have q1 : am_gt M1 35 (k : Int) = _ := q1
      have q2 : nm_CW M1 (am_gt M1 36 (k : Int)) _ := q2
      have hne : am_gt M 103 (k : Int) ≠ am_gt M1 36 (k : Int) := by
        intro e
        have hx := (show (nm_UL 101).all (fun w => !(decide (w ∈ nm_UL 34))) = true by decide +kernel)
        have := List.all_eq_true.mp hx _ hm
        rw [e] at this
        simp [hs] at this
      rw [a2, q1]
      have F2 : nm_Fr [(102, 0, 16)] M1 (am_st M1 102 (k : Int) (U.getD k nm_u0).1) := nm_Fr_st (nm_Fg_refl _ _) (nm_in_c (lo := 0) (hi := 16) (by decide) (by omega) (by omega))
      have FU := nm_Fr_trans F (nm_Fr_sub F2 (g := nm_Ug 101) (by decide +kernel))
      have hL2 := nm_LayU hu hL FU
      have q2' := nm_CW_fr q2 hL1 hsW F2 (nm_Wall (P := fun w => nm_dj [(102, 0, 16)] (nm_Wg w)) (by decide +kernel) hsW)
      refine ⟨by omega, by omega, nm_Wk hL2 hmW, by omega, nmc_136 (by omega) hL2 hmW hsW hne q2' (fun M3 F3 hW3 => ?_)⟩
      have F03 := nm_Fr_Ug FU hm F3
      have hL3 := nm_LayU hu hL F03
      refine h_101_34_134_45 hL3 ?_
      rw [nm_wk (by omega)]
      refine ih hkl M3 F03 ?_ (fun j => ?_) (fun i hi => ?_)
      · rw [nm_gt_frn F3 hL2 (by decide) (nm_Wall (P := fun w => nm_no (nm_Wg w) 101) (by decide +kernel) hmW), nm_st_ne (by decide)]; exact a0
      · rw [nm_gt_frn F3 hL2 (by decide) (nm_Wall (P := fun w => nm_no (nm_Wg w) 103) (by decide +kernel) hmW), nm_st_ne (by decide)]; exact a2 j
      · rw [nm_gt_frn F3 hL2 (by decide) (nm_Wall (P := fun w => nm_no (nm_Wg w) 102) (by decide +kernel) hmW), nm_gt_st]
        by_cases hik : i = k
        · subst hik
          rw [if_pos ⟨rfl, rfl⟩]; exact ⟨rfl, hW3⟩
        · rw [if_neg (fun c => hik (by have := c.2; omega))]
          obtain ⟨r1, r2⟩ := a3 i (by omega)
          have hiW := nm_ULWL hu (show am_gt M 103 (i : Int) ∈ nm_UL 101 from hP.1 (i : Int) (by omega) (by omega))
          refine ⟨r1, nm_CW_fr (nm_CW_fr r2 hL1 hiW F2 (nm_Wall (P := fun w => nm_dj [(102, 0, 16)] (nm_Wg w)) (by decide +kernel) hiW)) hL2 hiW F3 (nm_WWdj hmW hiW (fun e => ?_))⟩
          have := hP.2 (k : Int) (i : Int) (by omega) (by omega) (by omega) (by omega) e
          omega
  exact key 0 (Nat.zero_le _) _ (nm_Fr_st (nm_Fg_refl _ _) (by decide +kernel)) nm_st_eq (fun j => by rw [nm_st_ne (by decide)]) (fun i hi => absurd hi (by omega))
theorem nmc_134_34 {d : Nat} {U : List (Int × nm_W)} {M : am_M} {Q : List am_V → am_M → Prop} (hd : 2 ≤ d) (hL : nm_Lay M) (hU : nm_CU M 101 U) (hP : nm_CUp M 34) (hQ : ∀ M', nm_Fr (nm_Ug 34) M M' → nm_CU M' 34 U → Q [] M') : am_CL d 134 [(2, 34), (2, 101)] M Q := by
  have hu : (34 : Int) = 34 ∨ (34 : Int) = 101 := by decide
  have hv : (101 : Int) = 34 ∨ (101 : Int) = 101 := by decide
  have hU0 := hU
  obtain ⟨-, u0, u1, -⟩ := hU
  refine h_34_101_134_0 hL ?_
  rw [u0]
  have key : ∀ k : Nat, k ≤ U.length → ∀ M1, nm_Fr (nm_Ug 34) M M1 → am_gt M1 34 0 = (U.length : Int) → (∀ j, am_gt M1 36 j = am_gt M 36 j) → (∀ i : Nat, i < k → am_gt M1 35 (i : Int) = (U.getD i nm_u0).1 ∧ nm_CW M1 (am_gt M 36 (i : Int)) (U.getD i nm_u0).2) → am_WP d am_c134 10 [(2, 34), (2, 101), (0, (k : Int))] [] M1 Q := by
    refine nm_dn ?_
    intro k hk ih M1 F a0 a2 a3
    have hL1 := nm_LayU hu hL F
    have hV1 := nm_CU_fr hv hU0 hL F (by decide +kernel)
    refine h_34_101_134_10 hL1 ?_
    rw [a0]
    refine ⟨fun h => ?_, fun h => ?_⟩
    · refine hQ M1 F ⟨nm_CUp_kp hP (fun i _ _ => a2 i), a0, u1, fun i hi => ?_⟩
      show am_gt M1 35 _ = _ ∧ nm_CW M1 (am_gt M1 36 _) _
      rw [a2]; exact a3 i (by omega)
    · have hkl : k < U.length := by omega
      obtain ⟨⟨v1, v2⟩, -, -, v4⟩ := hV1
      obtain ⟨q1, q2⟩ := v4 k hkl
      have hm := hP.1 (k : Int) (by omega) (by omega)
      have hm : am_gt M 36 (k : Int) ∈ nm_UL 34 := hm
      have hmW := nm_ULWL hu hm
      have hs := v1 (k : Int) (by omega) (by omega)
      have hs : am_gt M1 103 (k : Int) ∈ nm_UL 101 := hs
      have hsW := nm_ULWL hv hs
      have q1 : am_gt M1 102 (k : Int) = _ := q1
      have q2 : nm_CW M1 (am_gt M1 103 (k : Int)) _ := q2
      have hne : am_gt M 36 (k : Int) ≠ am_gt M1 103 (k : Int) := by
        intro e
        have hx := (show (nm_UL 34).all (fun w => !(decide (w ∈ nm_UL 101))) = true by decide +kernel)
        have := List.all_eq_true.mp hx _ hm
        rw [e] at this
        simp [hs] at this
      rw [a2, q1]
      have F2 : nm_Fr [(35, 0, 16)] M1 (am_st M1 35 (k : Int) (U.getD k nm_u0).1) := nm_Fr_st (nm_Fg_refl _ _) (nm_in_c (lo := 0) (hi := 16) (by decide) (by omega) (by omega))
      have FU := nm_Fr_trans F (nm_Fr_sub F2 (g := nm_Ug 34) (by decide +kernel))
      have hL2 := nm_LayU hu hL FU
      have q2' := nm_CW_fr q2 hL1 hsW F2 (nm_Wall (P := fun w => nm_dj [(35, 0, 16)] (nm_Wg w)) (by decide +kernel) hsW)
      refine ⟨by omega, by omega, nm_Wk hL2 hmW, by omega, nmc_136 (by omega) hL2 hmW hsW hne q2' (fun M3 F3 hW3 => ?_)⟩
      have F03 := nm_Fr_Ug FU hm F3
      have hL3 := nm_LayU hu hL F03
      refine h_34_101_134_45 hL3 ?_
      rw [nm_wk (by omega)]
      refine ih hkl M3 F03 ?_ (fun j => ?_) (fun i hi => ?_)
      · rw [nm_gt_frn F3 hL2 (by decide) (nm_Wall (P := fun w => nm_no (nm_Wg w) 34) (by decide +kernel) hmW), nm_st_ne (by decide)]; exact a0
      · rw [nm_gt_frn F3 hL2 (by decide) (nm_Wall (P := fun w => nm_no (nm_Wg w) 36) (by decide +kernel) hmW), nm_st_ne (by decide)]; exact a2 j
      · rw [nm_gt_frn F3 hL2 (by decide) (nm_Wall (P := fun w => nm_no (nm_Wg w) 35) (by decide +kernel) hmW), nm_gt_st]
        by_cases hik : i = k
        · subst hik
          rw [if_pos ⟨rfl, rfl⟩]; exact ⟨rfl, hW3⟩
        · rw [if_neg (fun c => hik (by have := c.2; omega))]
          obtain ⟨r1, r2⟩ := a3 i (by omega)
          have hiW := nm_ULWL hu (show am_gt M 36 (i : Int) ∈ nm_UL 34 from hP.1 (i : Int) (by omega) (by omega))
          refine ⟨r1, nm_CW_fr (nm_CW_fr r2 hL1 hiW F2 (nm_Wall (P := fun w => nm_dj [(35, 0, 16)] (nm_Wg w)) (by decide +kernel) hiW)) hL2 hiW F3 (nm_WWdj hmW hiW (fun e => ?_))⟩
          have := hP.2 (k : Int) (i : Int) (by omega) (by omega) (by omega) (by omega) e
          omega
  exact key 0 (Nat.zero_le _) _ (nm_Fr_st (nm_Fg_refl _ _) (by decide +kernel)) nm_st_eq (fun j => by rw [nm_st_ne (by decide)]) (fun i hi => absurd hi (by omega))
/-! A STATE COPIED -/
/-- the slots of texts hold texts, or nothing -/
def nm_TX (M : am_M) (b : Int) : Prop := ∀ k, 0 ≤ k → k < 6 → am_gt M (b + 9) k = -1 ∨ (247 ≤ am_gt M (b + 9) k ∧ am_gt M (b + 9) k < M.1 ∧ am_kd M (am_gt M (b + 9) k) = 5)
theorem nm_TX_fr {n s : Int} {f : nm_Rg} {M M' : am_M} {b : Int} (h : nm_TX M b) (hb : b + 9 < 247) (hL : nm_Lay M) (hF : nm_Fg n s f M M') (hn : nm_no f (b + 9) = true) : nm_TX M' b := by
  intro k k0 k1
  rw [nm_gt_frn hF hL hb hn]
  rcases h k k0 k1 with e | ⟨e1, e2, e3⟩
  · exact .inl e
  · refine .inr ⟨e1, by have := hF.1; omega, ?_⟩
    rw [show am_kd M' _ = am_kd M _ from congrArg Prod.fst (hF.2.2.2.1 _ e2)]; exact e3
theorem nmc_114_186_1 {d : Nat} {S : Int → Int} {W : nm_W} {M : am_M} {Q : List am_V → am_M → Prop} (hd : 2 ≤ d) (hL : nm_Lay M) (hS : nm_CS M 1 S) (hT : nm_TX M 1) (hW : nm_CW M 11 W) (hQ : ∀ M', nm_Fr (nm_Sg 186 ++ [(195, 0, 6)] ++ nm_Wg 196) M M' → nm_CS M' 186 S → (∀ k, 0 ≤ k → k < 6 → am_gt M' 195 k = am_gt M 10 k) → nm_CW M' 196 W → Q [] M') : am_CL d 114 [(2, 186), (2, 1)] M Q := by
  have lay : ∀ {M'}, nm_Fr (nm_Sg 186) M M' → nm_Lay M' := fun F => nm_Lay_fr hL F (by decide +kernel)
  have R := nm_Fg_refl (nm_Sg 186) M
  have F1 := nm_Fr_st (a := 186) (i := 0) (v := am_gt M 1 0) R (by decide)
  have F2 := nm_Fr_cp (a := 2) (i := 0) (b := 187) (j := 0) (m := 6) F1 (fun k x y => nm_in_c (lo := 0) (hi := 6) (by decide) x (by omega))
  have F3 := nm_Fr_cp (a := 3) (i := 0) (b := 188) (j := 0) (m := 30) F2 (fun k x y => nm_in_c (lo := 0) (hi := 30) (by decide) x (by omega))
  have F4 := nm_Fr_cp (a := 4) (i := 0) (b := 189) (j := 0) (m := 6) F3 (fun k x y => nm_in_c (lo := 0) (hi := 6) (by decide) x (by omega))
  have F5 := nm_Fr_cp (a := 5) (i := 0) (b := 190) (j := 0) (m := 6) F4 (fun k x y => nm_in_c (lo := 0) (hi := 6) (by decide) x (by omega))
  have F6 := nm_Fr_cp (a := 6) (i := 0) (b := 191) (j := 0) (m := 8) F5 (fun k x y => nm_in_c (lo := 0) (hi := 8) (by decide) x (by omega))
  refine h_186_1_114_0 hL (h_186_1_114_8 (lay F1) ⟨by omega, h_186_1_114_23 (lay F2) ⟨by omega, h_186_1_114_38 (lay F3) ⟨by omega, h_186_1_114_53 (lay F4) ⟨by omega, h_186_1_114_68 (lay F5) ⟨by omega, h_186_1_114_83 (lay F6) ?_⟩⟩⟩⟩⟩)
  generalize hM6 : am_cp (am_cp (am_cp (am_cp (am_cp (am_st M 186 0 (am_gt M 1 0)) 2 0 187 0 6) 3 0 188 0 30) 4 0 189 0 6) 5 0 190 0 6) 6 0 191 0 8 = M6 at F6 ⊢
  have g6 : ∀ a i, a ≠ 186 → a ≠ 187 → a ≠ 188 → a ≠ 189 → a ≠ 190 → a ≠ 191 → am_gt M6 a i = am_gt M a i := by
    intro a i n0 n1 n2 n3 n4 n5
    subst hM6
    simp only [nm_gt_cp, nm_gt_st, n0, n1, n2, n3, n4, n5, false_and, if_false]
  have c6 : ∀ a i j, nm_ci 186 a i j → (j = 0 ∨ (29 ≤ j ∧ j < 85)) → am_gt M6 a i = S j := by
    intro a i j hc hj
    subst hM6
    rcases hc with ⟨rfl, ⟨rfl, rfl⟩ | ⟨rfl, rfl⟩ | ⟨rfl, rfl⟩ | ⟨rfl, rfl⟩ | ⟨rfl, rfl⟩ | ⟨rfl, rfl⟩ | ⟨rfl, rfl⟩⟩ | ⟨rfl, x, y, rfl⟩ | ⟨rfl, x, y, rfl⟩ | ⟨rfl, x, y, rfl⟩ | ⟨rfl, x, y, rfl⟩ | ⟨rfl, x, y, rfl⟩ | ⟨rfl, x, y, rfl⟩ | ⟨rfl, x, y, rfl⟩ | ⟨rfl, x, y, rfl⟩
    · simp only [nm_gt_cp, nm_gt_st, Int.reduceEq, false_and, and_self, if_false, if_true]; exact hS.1
    · omega
    · omega
    · omega
    · omega
    · omega
    · omega
    · simp only [nm_gt_cp, nm_gt_st, Int.reduceAdd, Int.reduceEq, Int.zero_add, x, y, true_and, and_true, false_and, and_self, if_false, if_true, Int.sub_zero, Int.add_zero]; exact nm_CS_at hS (by unfold nm_ci; omega)
    · simp only [nm_gt_cp, nm_gt_st, Int.reduceAdd, Int.reduceEq, Int.zero_add, x, y, true_and, and_true, false_and, and_self, if_false, if_true, Int.sub_zero, Int.add_zero]; exact nm_CS_at hS (by unfold nm_ci; omega)
    · simp only [nm_gt_cp, nm_gt_st, Int.reduceAdd, Int.reduceEq, Int.zero_add, x, y, true_and, and_true, false_and, and_self, if_false, if_true, Int.sub_zero, Int.add_zero]; exact nm_CS_at hS (by unfold nm_ci; omega)
    · simp only [nm_gt_cp, nm_gt_st, Int.reduceAdd, Int.reduceEq, Int.zero_add, x, y, true_and, and_true, false_and, and_self, if_false, if_true, Int.sub_zero, Int.add_zero]; exact nm_CS_at hS (by unfold nm_ci; omega)
    · simp only [nm_gt_cp, nm_gt_st, Int.reduceAdd, Int.reduceEq, Int.zero_add, x, y, true_and, and_true, false_and, and_self, if_false, if_true, Int.sub_zero, Int.add_zero]; exact nm_CS_at hS (by unfold nm_ci; omega)
    · omega
    · omega
    · omega
  have F7 := nm_Fr_st (a := 186) (i := 6) (v := am_gt M6 1 6) F6 (by decide)
  have F8 := nm_Fr_cp (a := 7) (i := 0) (b := 192) (j := 0) (m := 8) F7 (fun k x y => nm_in_c (lo := 0) (hi := 8) (by decide) x (by omega))
  have F9 := nm_Fr_cp (a := 8) (i := 0) (b := 193) (j := 0) (m := 8) F8 (fun k x y => nm_in_c (lo := 0) (hi := 8) (by decide) x (by omega))
  have F10 := nm_Fr_cp (a := 9) (i := 0) (b := 194) (j := 0) (m := 8) F9 (fun k x y => nm_in_c (lo := 0) (hi := 8) (by decide) x (by omega))
  refine h_186_1_114_91 (lay F7) ⟨by omega, h_186_1_114_106 (lay F8) ⟨by omega, h_186_1_114_121 (lay F9) ⟨by omega, h_186_1_114_136 (lay F10) ?_⟩⟩⟩
  generalize hM10 : am_cp (am_cp (am_cp (am_st M6 186 6 (am_gt M6 1 6)) 7 0 192 0 8) 8 0 193 0 8) 9 0 194 0 8 = M10 at F10 ⊢
  have g10 : ∀ a i, (a < 186 ∨ 194 < a) → am_gt M10 a i = am_gt M a i := by
    intro a i n0
    have e0 : (a = 186) = False := eq_false (by omega)
    have e6 : (a = 192) = False := eq_false (by omega)
    have e7 : (a = 193) = False := eq_false (by omega)
    have e8 : (a = 194) = False := eq_false (by omega)
    subst hM10
    simp only [nm_gt_cp, nm_gt_st, e0, e6, e7, e8, false_and, if_false]
    exact g6 a i (by omega) (by omega) (by omega) (by omega) (by omega) (by omega)
  have c10 : ∀ a i j, nm_ci 186 a i j → (j = 0 ∨ j = 1 ∨ 29 ≤ j) → am_gt M10 a i = S j := by
    intro a i j hc hj
    by_cases hj2 : j = 0 ∨ (29 ≤ j ∧ j < 85)
    · have := c6 a i j hc hj2
      subst hM10
      rcases hc with ⟨rfl, ⟨rfl, rfl⟩ | ⟨rfl, rfl⟩ | ⟨rfl, rfl⟩ | ⟨rfl, rfl⟩ | ⟨rfl, rfl⟩ | ⟨rfl, rfl⟩ | ⟨rfl, rfl⟩⟩ | ⟨rfl, x, y, rfl⟩ | ⟨rfl, x, y, rfl⟩ | ⟨rfl, x, y, rfl⟩ | ⟨rfl, x, y, rfl⟩ | ⟨rfl, x, y, rfl⟩ | ⟨rfl, x, y, rfl⟩ | ⟨rfl, x, y, rfl⟩ | ⟨rfl, x, y, rfl⟩
      all_goals first
        | omega
        | (simp only [nm_gt_cp, nm_gt_st, Int.reduceAdd, Int.reduceEq, false_and, and_false, if_false] at this ⊢; exact this)
    · subst hM10
      rcases hc with ⟨rfl, ⟨rfl, rfl⟩ | ⟨rfl, rfl⟩ | ⟨rfl, rfl⟩ | ⟨rfl, rfl⟩ | ⟨rfl, rfl⟩ | ⟨rfl, rfl⟩ | ⟨rfl, rfl⟩⟩ | ⟨rfl, x, y, rfl⟩ | ⟨rfl, x, y, rfl⟩ | ⟨rfl, x, y, rfl⟩ | ⟨rfl, x, y, rfl⟩ | ⟨rfl, x, y, rfl⟩ | ⟨rfl, x, y, rfl⟩ | ⟨rfl, x, y, rfl⟩ | ⟨rfl, x, y, rfl⟩
      all_goals first
        | omega
        | (simp only [nm_gt_cp, nm_gt_st, Int.reduceEq, false_and, and_self, if_false, if_true]; rw [g6 _ _ (by decide) (by decide) (by decide) (by decide) (by decide) (by decide)]; exact hS.2.1)
        | (simp only [nm_gt_cp, nm_gt_st, Int.reduceAdd, Int.reduceEq, Int.zero_add, x, y, true_and, and_true, false_and, and_self, if_false, if_true, Int.sub_zero, Int.add_zero]; rw [g6 _ _ (by decide) (by decide) (by decide) (by decide) (by decide) (by decide)]; exact nm_CS_at hS (by unfold nm_ci; omega))
  have F11 := nm_Fr_st (a := 186) (i := 10) (v := am_gt M10 1 10) F10 (by decide)
  refine h_186_1_114_144 (lay F11) ?_
  have F12 := nm_Fr_st (a := 186) (i := 11) (v := am_gt (am_st M10 186 10 (am_gt M10 1 10)) 1 11) F11 (by decide)
  refine h_186_1_114_152 (lay F12) ?_
  have e11 : am_gt (am_st M10 186 10 (am_gt M10 1 10)) 1 11 = S 6 := by rw [nm_st_ne (by decide), g10 _ _ (by decide)]; exact nm_CS_at hS (by unfold nm_ci; omega)
  have e10 : am_gt M10 1 10 = S 5 := by rw [g10 _ _ (by decide)]; exact nm_CS_at hS (by unfold nm_ci; omega)
  have e12 : am_gt (am_st (am_st M10 186 10 (S 5)) 186 11 (S 6)) 1 12 = S 7 := by rw [nm_st_ne (by decide), nm_st_ne (by decide), g10 _ _ (by decide)]; exact nm_CS_at hS (by unfold nm_ci; omega)
  have e13 : am_gt (am_st (am_st M10 186 10 (S 5)) 186 11 (S 6)) 1 13 = S 2 := by rw [nm_st_ne (by decide), nm_st_ne (by decide), g10 _ _ (by decide)]; exact nm_CS_at hS (by unfold nm_ci; omega)
  rw [e11] at F12 ⊢
  rw [e10] at F12 ⊢
  rw [e12, e13]
  have F14 := nm_Fr_st (a := 186) (i := 13) (v := S 2) (nm_Fr_st (a := 186) (i := 12) (v := S 7) F12 (by decide)) (by decide)
  generalize hM14 : am_st (am_st (am_st (am_st M10 186 10 (S 5)) 186 11 (S 6)) 186 12 (S 7)) 186 13 (S 2) = M14 at F14 ⊢
  have g14 : ∀ a i, (a < 186 ∨ 194 < a) → am_gt M14 a i = am_gt M a i := by
    intro a i n0
    subst hM14
    rw [nm_st_ne (by omega), nm_st_ne (by omega), nm_st_ne (by omega), nm_st_ne (by omega)]
    exact g10 a i n0
  have c14 : ∀ a i j, nm_ci 186 a i j → j ≠ 3 → am_gt M14 a i = S j := by
    intro a i j hc hj
    subst hM14
    by_cases hj2 : j = 0 ∨ j = 1 ∨ 29 ≤ j
    · rw [nm_gt_st, if_neg (by unfold nm_ci at hc; omega), nm_gt_st, if_neg (by unfold nm_ci at hc; omega), nm_gt_st, if_neg (by unfold nm_ci at hc; omega), nm_gt_st, if_neg (by unfold nm_ci at hc; omega)]
      exact c10 a i j hc hj2
    · have hx : a = 186 ∧ ((i = 13 ∧ j = 2) ∨ (i = 10 ∧ j = 5) ∨ (i = 11 ∧ j = 6) ∨ (i = 12 ∧ j = 7)) := by unfold nm_ci at hc; omega
      obtain ⟨rfl, ⟨rfl, rfl⟩ | ⟨rfl, rfl⟩ | ⟨rfl, rfl⟩ | ⟨rfl, rfl⟩⟩ := hx <;> simp only [nm_gt_st, Int.reduceEq, and_false, and_self, if_false, if_true]
  have key : ∀ k : Nat, k ≤ 6 → ∀ M1, nm_Fr (nm_Sg 186 ++ [(195, 0, 6)]) M M1 → nm_Fr [(195, 0, 6)] M14 M1 → (∀ j, 0 ≤ j → j < (k : Int) → am_gt M1 195 j = am_gt M 10 j) → am_WP d am_c114 170 [(2, 186), (2, 1), (0, (k : Int))] [] M1 Q := by
    refine nm_dn ?_
    intro k hk ih M1 F F' a1
    have hL14 := lay F14
    have hL1 := nm_Lay_fr hL F (by decide +kernel)
    have hcg : ∀ a i, (a < 186 ∨ 195 < a) → a < 247 → am_gt M1 a i = am_gt M a i := by
      intro a i n0 n1
      rw [nm_gt_fr F' (by have := hL14.2.2.1; omega) (nm_in_no (by unfold nm_no; simp only [List.all_cons, List.all_nil, Bool.and_true, Bool.not_eq_true', decide_eq_false_iff_not]; omega))]
      exact g14 a i (by omega)
    refine h_186_1_114_170 hL1 ⟨fun h => ⟨by omega, ?_⟩, fun h => ?_⟩
    · have hk6 : k = 6 := by omega
      subst hk6
      have e15 : am_gt M1 1 15 = S 3 := by rw [hcg _ _ (by decide) (by decide)]; exact nm_CS_at hS (by unfold nm_ci; omega)
      rw [e15]
      have F2 : nm_Fr (nm_Sg 186 ++ [(195, 0, 6)]) M (am_st M1 186 15 (S 3)) := nm_Fr_st F (by decide)
      have F2' : nm_Fr [(186, 15, 16)] M1 (am_st M1 186 15 (S 3)) := nm_Fr_st (nm_Fg_refl _ _) (by decide)
      have hL2 := nm_Lay_fr hL F2 (by decide +kernel)
      have hW2 := nm_CW_fr hW hL (by decide) F2 (by decide)
      have cS : nm_CS (am_st M1 186 15 (S 3)) 186 S := by
        refine nm_CS_of (fun a i j hc => ?_)
        by_cases hj : j = 3
        · have hx : a = 186 ∧ i = 15 := by unfold nm_ci at hc; omega
          obtain ⟨rfl, rfl⟩ := hx
          rw [nm_st_eq, hj]
        · have hx : ¬ (a = 186 ∧ i = 15) := by unfold nm_ci at hc; omega
          have hy : a < 247 ∧ a ≠ 195 := by unfold nm_ci at hc; omega
          rw [nm_gt_st, if_neg hx, nm_gt_fr F' (by have := hL14.2.2.1; omega) (nm_in_no (by unfold nm_no; simp only [List.all_cons, List.all_nil, Bool.and_true, Bool.not_eq_true', decide_eq_false_iff_not]; omega))]
          exact c14 a i j hc hj
      refine nmc_136 (by omega) hL2 (by decide) (by decide) (by decide) hW2 (fun M3 F3 hW3 => ?_)
      have hL3 := nm_Lay_fr hL2 F3 (by decide +kernel)
      refine h_186_1_114_213 hL3 (hQ M3 (nm_Fr_trans (nm_Fr_appl F2) (nm_Fr_appr F3)) (nm_CS_fr cS hL2 (by decide) F3 (by decide)) (fun j j0 j1 => ?_) hW3)
      rw [nm_gt_frn F3 hL2 (by decide) (by decide), nm_st_ne (by decide)]
      exact a1 j j0 (by omega)
    · have e9 : am_gt M1 10 (k : Int) = am_gt M 10 (k : Int) := hcg _ _ (by decide) (by decide)
      rw [e9, nm_wk (by omega)]
      refine ⟨by omega, by omega, ?_, ih (by omega) _ (nm_Fr_st F (nm_in_c (lo := 0) (hi := 6) (by decide) (by omega) (by omega))) (nm_Fr_st F' (nm_in_c (lo := 0) (hi := 6) (by decide) (by omega) (by omega))) (fun j j0 j1 => ?_)⟩
      · rcases hT (k : Int) (by omega) (by omega) with e | ⟨e1, e2, e3⟩
        · exact .inl e
        · refine .inr ?_
          rw [show am_kd M1 _ = am_kd M _ from congrArg Prod.fst (F.2.2.2.1 _ e2)]; exact e3
      · rw [nm_gt_st]
        by_cases hj : j = (k : Int)
        · rw [if_pos ⟨rfl, hj⟩, hj]
        · rw [if_neg (fun c => hj c.2)]; exact a1 j j0 (by omega)
  exact key 0 (Nat.zero_le _) M14 (nm_Fr_appl F14) (nm_Fg_refl _ _) (fun j j0 j1 => absurd j1 (by omega))
theorem nmc_114_200_1 {d : Nat} {S : Int → Int} {W : nm_W} {M : am_M} {Q : List am_V → am_M → Prop} (hd : 2 ≤ d) (hL : nm_Lay M) (hS : nm_CS M 1 S) (hT : nm_TX M 1) (hW : nm_CW M 11 W) (hQ : ∀ M', nm_Fr (nm_Sg 200 ++ [(209, 0, 6)] ++ nm_Wg 210) M M' → nm_CS M' 200 S → (∀ k, 0 ≤ k → k < 6 → am_gt M' 209 k = am_gt M 10 k) → nm_CW M' 210 W → Q [] M') : am_CL d 114 [(2, 200), (2, 1)] M Q := by
  have lay : ∀ {M'}, nm_Fr (nm_Sg 200) M M' → nm_Lay M' := fun F => nm_Lay_fr hL F (by decide +kernel)
  have R := nm_Fg_refl (nm_Sg 200) M
  have F1 := nm_Fr_st (a := 200) (i := 0) (v := am_gt M 1 0) R (by decide)
  have F2 := nm_Fr_cp (a := 2) (i := 0) (b := 201) (j := 0) (m := 6) F1 (fun k x y => nm_in_c (lo := 0) (hi := 6) (by decide) x (by omega))
  have F3 := nm_Fr_cp (a := 3) (i := 0) (b := 202) (j := 0) (m := 30) F2 (fun k x y => nm_in_c (lo := 0) (hi := 30) (by decide) x (by omega))
  have F4 := nm_Fr_cp (a := 4) (i := 0) (b := 203) (j := 0) (m := 6) F3 (fun k x y => nm_in_c (lo := 0) (hi := 6) (by decide) x (by omega))
  have F5 := nm_Fr_cp (a := 5) (i := 0) (b := 204) (j := 0) (m := 6) F4 (fun k x y => nm_in_c (lo := 0) (hi := 6) (by decide) x (by omega))
  have F6 := nm_Fr_cp (a := 6) (i := 0) (b := 205) (j := 0) (m := 8) F5 (fun k x y => nm_in_c (lo := 0) (hi := 8) (by decide) x (by omega))
  refine h_200_1_114_0 hL (h_200_1_114_8 (lay F1) ⟨by omega, h_200_1_114_23 (lay F2) ⟨by omega, h_200_1_114_38 (lay F3) ⟨by omega, h_200_1_114_53 (lay F4) ⟨by omega, h_200_1_114_68 (lay F5) ⟨by omega, h_200_1_114_83 (lay F6) ?_⟩⟩⟩⟩⟩)
  generalize hM6 : am_cp (am_cp (am_cp (am_cp (am_cp (am_st M 200 0 (am_gt M 1 0)) 2 0 201 0 6) 3 0 202 0 30) 4 0 203 0 6) 5 0 204 0 6) 6 0 205 0 8 = M6 at F6 ⊢
  have g6 : ∀ a i, a ≠ 200 → a ≠ 201 → a ≠ 202 → a ≠ 203 → a ≠ 204 → a ≠ 205 → am_gt M6 a i = am_gt M a i := by
    intro a i n0 n1 n2 n3 n4 n5
    subst hM6
    simp only [nm_gt_cp, nm_gt_st, n0, n1, n2, n3, n4, n5, false_and, if_false]
  have c6 : ∀ a i j, nm_ci 200 a i j → (j = 0 ∨ (29 ≤ j ∧ j < 85)) → am_gt M6 a i = S j := by
    intro a i j hc hj
    subst hM6
    rcases hc with ⟨rfl, ⟨rfl, rfl⟩ | ⟨rfl, rfl⟩ | ⟨rfl, rfl⟩ | ⟨rfl, rfl⟩ | ⟨rfl, rfl⟩ | ⟨rfl, rfl⟩ | ⟨rfl, rfl⟩⟩ | ⟨rfl, x, y, rfl⟩ | ⟨rfl, x, y, rfl⟩ | ⟨rfl, x, y, rfl⟩ | ⟨rfl, x, y, rfl⟩ | ⟨rfl, x, y, rfl⟩ | ⟨rfl, x, y, rfl⟩ | ⟨rfl, x, y, rfl⟩ | ⟨rfl, x, y, rfl⟩
    · simp only [nm_gt_cp, nm_gt_st, Int.reduceEq, false_and, and_self, if_false, if_true]; exact hS.1
    · omega
    · omega
    · omega
    · omega
    · omega
    · omega
    · simp only [nm_gt_cp, nm_gt_st, Int.reduceAdd, Int.reduceEq, Int.zero_add, x, y, true_and, and_true, false_and, and_self, if_false, if_true, Int.sub_zero, Int.add_zero]; exact nm_CS_at hS (by unfold nm_ci; omega)
    · simp only [nm_gt_cp, nm_gt_st, Int.reduceAdd, Int.reduceEq, Int.zero_add, x, y, true_and, and_true, false_and, and_self, if_false, if_true, Int.sub_zero, Int.add_zero]; exact nm_CS_at hS (by unfold nm_ci; omega)
    · simp only [nm_gt_cp, nm_gt_st, Int.reduceAdd, Int.reduceEq, Int.zero_add, x, y, true_and, and_true, false_and, and_self, if_false, if_true, Int.sub_zero, Int.add_zero]; exact nm_CS_at hS (by unfold nm_ci; omega)
    · simp only [nm_gt_cp, nm_gt_st, Int.reduceAdd, Int.reduceEq, Int.zero_add, x, y, true_and, and_true, false_and, and_self, if_false, if_true, Int.sub_zero, Int.add_zero]; exact nm_CS_at hS (by unfold nm_ci; omega)
    · simp only [nm_gt_cp, nm_gt_st, Int.reduceAdd, Int.reduceEq, Int.zero_add, x, y, true_and, and_true, false_and, and_self, if_false, if_true, Int.sub_zero, Int.add_zero]; exact nm_CS_at hS (by unfold nm_ci; omega)
    · omega
    · omega
    · omega
  have F7 := nm_Fr_st (a := 200) (i := 6) (v := am_gt M6 1 6) F6 (by decide)
  have F8 := nm_Fr_cp (a := 7) (i := 0) (b := 206) (j := 0) (m := 8) F7 (fun k x y => nm_in_c (lo := 0) (hi := 8) (by decide) x (by omega))
  have F9 := nm_Fr_cp (a := 8) (i := 0) (b := 207) (j := 0) (m := 8) F8 (fun k x y => nm_in_c (lo := 0) (hi := 8) (by decide) x (by omega))
  have F10 := nm_Fr_cp (a := 9) (i := 0) (b := 208) (j := 0) (m := 8) F9 (fun k x y => nm_in_c (lo := 0) (hi := 8) (by decide) x (by omega))
  refine h_200_1_114_91 (lay F7) ⟨by omega, h_200_1_114_106 (lay F8) ⟨by omega, h_200_1_114_121 (lay F9) ⟨by omega, h_200_1_114_136 (lay F10) ?_⟩⟩⟩
  generalize hM10 : am_cp (am_cp (am_cp (am_st M6 200 6 (am_gt M6 1 6)) 7 0 206 0 8) 8 0 207 0 8) 9 0 208 0 8 = M10 at F10 ⊢
  have g10 : ∀ a i, (a < 200 ∨ 208 < a) → am_gt M10 a i = am_gt M a i := by
    intro a i n0
    have e0 : (a = 200) = False := eq_false (by omega)
    have e6 : (a = 206) = False := eq_false (by omega)
    have e7 : (a = 207) = False := eq_false (by omega)
    have e8 : (a = 208) = False := eq_false (by omega)
    subst hM10
    simp only [nm_gt_cp, nm_gt_st, e0, e6, e7, e8, false_and, if_false]
    exact g6 a i (by omega) (by omega) (by omega) (by omega) (by omega) (by omega)
  have c10 : ∀ a i j, nm_ci 200 a i j → (j = 0 ∨ j = 1 ∨ 29 ≤ j) → am_gt M10 a i = S j := by
    intro a i j hc hj
    by_cases hj2 : j = 0 ∨ (29 ≤ j ∧ j < 85)
    · have := c6 a i j hc hj2
      subst hM10
      rcases hc with ⟨rfl, ⟨rfl, rfl⟩ | ⟨rfl, rfl⟩ | ⟨rfl, rfl⟩ | ⟨rfl, rfl⟩ | ⟨rfl, rfl⟩ | ⟨rfl, rfl⟩ | ⟨rfl, rfl⟩⟩ | ⟨rfl, x, y, rfl⟩ | ⟨rfl, x, y, rfl⟩ | ⟨rfl, x, y, rfl⟩ | ⟨rfl, x, y, rfl⟩ | ⟨rfl, x, y, rfl⟩ | ⟨rfl, x, y, rfl⟩ | ⟨rfl, x, y, rfl⟩ | ⟨rfl, x, y, rfl⟩
      all_goals first
        | omega
        | (simp only [nm_gt_cp, nm_gt_st, Int.reduceAdd, Int.reduceEq, false_and, and_false, if_false] at this ⊢; exact this)
    · subst hM10
      rcases hc with ⟨rfl, ⟨rfl, rfl⟩ | ⟨rfl, rfl⟩ | ⟨rfl, rfl⟩ | ⟨rfl, rfl⟩ | ⟨rfl, rfl⟩ | ⟨rfl, rfl⟩ | ⟨rfl, rfl⟩⟩ | ⟨rfl, x, y, rfl⟩ | ⟨rfl, x, y, rfl⟩ | ⟨rfl, x, y, rfl⟩ | ⟨rfl, x, y, rfl⟩ | ⟨rfl, x, y, rfl⟩ | ⟨rfl, x, y, rfl⟩ | ⟨rfl, x, y, rfl⟩ | ⟨rfl, x, y, rfl⟩
      all_goals first
        | omega
        | (simp only [nm_gt_cp, nm_gt_st, Int.reduceEq, false_and, and_self, if_false, if_true]; rw [g6 _ _ (by decide) (by decide) (by decide) (by decide) (by decide) (by decide)]; exact hS.2.1)
        | (simp only [nm_gt_cp, nm_gt_st, Int.reduceAdd, Int.reduceEq, Int.zero_add, x, y, true_and, and_true, false_and, and_self, if_false, if_true, Int.sub_zero, Int.add_zero]; rw [g6 _ _ (by decide) (by decide) (by decide) (by decide) (by decide) (by decide)]; exact nm_CS_at hS (by unfold nm_ci; omega))
  have F11 := nm_Fr_st (a := 200) (i := 10) (v := am_gt M10 1 10) F10 (by decide)
  refine h_200_1_114_144 (lay F11) ?_
  have F12 := nm_Fr_st (a := 200) (i := 11) (v := am_gt (am_st M10 200 10 (am_gt M10 1 10)) 1 11) F11 (by decide)
  refine h_200_1_114_152 (lay F12) ?_
  have e11 : am_gt (am_st M10 200 10 (am_gt M10 1 10)) 1 11 = S 6 := by rw [nm_st_ne (by decide), g10 _ _ (by decide)]; exact nm_CS_at hS (by unfold nm_ci; omega)
  have e10 : am_gt M10 1 10 = S 5 := by rw [g10 _ _ (by decide)]; exact nm_CS_at hS (by unfold nm_ci; omega)
  have e12 : am_gt (am_st (am_st M10 200 10 (S 5)) 200 11 (S 6)) 1 12 = S 7 := by rw [nm_st_ne (by decide), nm_st_ne (by decide), g10 _ _ (by decide)]; exact nm_CS_at hS (by unfold nm_ci; omega)
  have e13 : am_gt (am_st (am_st M10 200 10 (S 5)) 200 11 (S 6)) 1 13 = S 2 := by rw [nm_st_ne (by decide), nm_st_ne (by decide), g10 _ _ (by decide)]; exact nm_CS_at hS (by unfold nm_ci; omega)
  rw [e11] at F12 ⊢
  rw [e10] at F12 ⊢
  rw [e12, e13]
  have F14 := nm_Fr_st (a := 200) (i := 13) (v := S 2) (nm_Fr_st (a := 200) (i := 12) (v := S 7) F12 (by decide)) (by decide)
  generalize hM14 : am_st (am_st (am_st (am_st M10 200 10 (S 5)) 200 11 (S 6)) 200 12 (S 7)) 200 13 (S 2) = M14 at F14 ⊢
  have g14 : ∀ a i, (a < 200 ∨ 208 < a) → am_gt M14 a i = am_gt M a i := by
    intro a i n0
    subst hM14
    rw [nm_st_ne (by omega), nm_st_ne (by omega), nm_st_ne (by omega), nm_st_ne (by omega)]
    exact g10 a i n0
  have c14 : ∀ a i j, nm_ci 200 a i j → j ≠ 3 → am_gt M14 a i = S j := by
    intro a i j hc hj
    subst hM14
    by_cases hj2 : j = 0 ∨ j = 1 ∨ 29 ≤ j
    · rw [nm_gt_st, if_neg (by unfold nm_ci at hc; omega), nm_gt_st, if_neg (by unfold nm_ci at hc; omega), nm_gt_st, if_neg (by unfold nm_ci at hc; omega), nm_gt_st, if_neg (by unfold nm_ci at hc; omega)]
      exact c10 a i j hc hj2
    · have hx : a = 200 ∧ ((i = 13 ∧ j = 2) ∨ (i = 10 ∧ j = 5) ∨ (i = 11 ∧ j = 6) ∨ (i = 12 ∧ j = 7)) := by unfold nm_ci at hc; omega
      obtain ⟨rfl, ⟨rfl, rfl⟩ | ⟨rfl, rfl⟩ | ⟨rfl, rfl⟩ | ⟨rfl, rfl⟩⟩ := hx <;> simp only [nm_gt_st, Int.reduceEq, and_false, and_self, if_false, if_true]
  have key : ∀ k : Nat, k ≤ 6 → ∀ M1, nm_Fr (nm_Sg 200 ++ [(209, 0, 6)]) M M1 → nm_Fr [(209, 0, 6)] M14 M1 → (∀ j, 0 ≤ j → j < (k : Int) → am_gt M1 209 j = am_gt M 10 j) → am_WP d am_c114 170 [(2, 200), (2, 1), (0, (k : Int))] [] M1 Q := by
    refine nm_dn ?_
    intro k hk ih M1 F F' a1
    have hL14 := lay F14
    have hL1 := nm_Lay_fr hL F (by decide +kernel)
    have hcg : ∀ a i, (a < 200 ∨ 209 < a) → a < 247 → am_gt M1 a i = am_gt M a i := by
      intro a i n0 n1
      rw [nm_gt_fr F' (by have := hL14.2.2.1; omega) (nm_in_no (by unfold nm_no; simp only [List.all_cons, List.all_nil, Bool.and_true, Bool.not_eq_true', decide_eq_false_iff_not]; omega))]
      exact g14 a i (by omega)
    refine h_200_1_114_170 hL1 ⟨fun h => ⟨by omega, ?_⟩, fun h => ?_⟩
    · have hk6 : k = 6 := by omega
      subst hk6
      have e15 : am_gt M1 1 15 = S 3 := by rw [hcg _ _ (by decide) (by decide)]; exact nm_CS_at hS (by unfold nm_ci; omega)
      rw [e15]
      have F2 : nm_Fr (nm_Sg 200 ++ [(209, 0, 6)]) M (am_st M1 200 15 (S 3)) := nm_Fr_st F (by decide)
      have F2' : nm_Fr [(200, 15, 16)] M1 (am_st M1 200 15 (S 3)) := nm_Fr_st (nm_Fg_refl _ _) (by decide)
      have hL2 := nm_Lay_fr hL F2 (by decide +kernel)
      have hW2 := nm_CW_fr hW hL (by decide) F2 (by decide)
      have cS : nm_CS (am_st M1 200 15 (S 3)) 200 S := by
        refine nm_CS_of (fun a i j hc => ?_)
        by_cases hj : j = 3
        · have hx : a = 200 ∧ i = 15 := by unfold nm_ci at hc; omega
          obtain ⟨rfl, rfl⟩ := hx
          rw [nm_st_eq, hj]
        · have hx : ¬ (a = 200 ∧ i = 15) := by unfold nm_ci at hc; omega
          have hy : a < 247 ∧ a ≠ 209 := by unfold nm_ci at hc; omega
          rw [nm_gt_st, if_neg hx, nm_gt_fr F' (by have := hL14.2.2.1; omega) (nm_in_no (by unfold nm_no; simp only [List.all_cons, List.all_nil, Bool.and_true, Bool.not_eq_true', decide_eq_false_iff_not]; omega))]
          exact c14 a i j hc hj
      refine nmc_136 (by omega) hL2 (by decide) (by decide) (by decide) hW2 (fun M3 F3 hW3 => ?_)
      have hL3 := nm_Lay_fr hL2 F3 (by decide +kernel)
      refine h_200_1_114_213 hL3 (hQ M3 (nm_Fr_trans (nm_Fr_appl F2) (nm_Fr_appr F3)) (nm_CS_fr cS hL2 (by decide) F3 (by decide)) (fun j j0 j1 => ?_) hW3)
      rw [nm_gt_frn F3 hL2 (by decide) (by decide), nm_st_ne (by decide)]
      exact a1 j j0 (by omega)
    · have e9 : am_gt M1 10 (k : Int) = am_gt M 10 (k : Int) := hcg _ _ (by decide) (by decide)
      rw [e9, nm_wk (by omega)]
      refine ⟨by omega, by omega, ?_, ih (by omega) _ (nm_Fr_st F (nm_in_c (lo := 0) (hi := 6) (by decide) (by omega) (by omega))) (nm_Fr_st F' (nm_in_c (lo := 0) (hi := 6) (by decide) (by omega) (by omega))) (fun j j0 j1 => ?_)⟩
      · rcases hT (k : Int) (by omega) (by omega) with e | ⟨e1, e2, e3⟩
        · exact .inl e
        · refine .inr ?_
          rw [show am_kd M1 _ = am_kd M _ from congrArg Prod.fst (F.2.2.2.1 _ e2)]; exact e3
      · rw [nm_gt_st]
        by_cases hj : j = (k : Int)
        · rw [if_pos ⟨rfl, hj⟩, hj]
        · rw [if_neg (fun c => hj c.2)]; exact a1 j j0 (by omega)
  exact key 0 (Nat.zero_le _) M14 (nm_Fr_appl F14) (nm_Fg_refl _ _) (fun j j0 j1 => absurd j1 (by omega))
theorem nmc_114_1_186 {d : Nat} {S : Int → Int} {W : nm_W} {M : am_M} {Q : List am_V → am_M → Prop} (hd : 2 ≤ d) (hL : nm_Lay M) (hS : nm_CS M 186 S) (hT : nm_TX M 186) (hW : nm_CW M 196 W) (hQ : ∀ M', nm_Fr (nm_Sg 1 ++ [(10, 0, 6)] ++ nm_Wg 11) M M' → nm_CS M' 1 S → (∀ k, 0 ≤ k → k < 6 → am_gt M' 10 k = am_gt M 195 k) → nm_CW M' 11 W → Q [] M') : am_CL d 114 [(2, 1), (2, 186)] M Q := by
  have lay : ∀ {M'}, nm_Fr (nm_Sg 1) M M' → nm_Lay M' := fun F => nm_Lay_fr hL F (by decide +kernel)
  have R := nm_Fg_refl (nm_Sg 1) M
  have F1 := nm_Fr_st (a := 1) (i := 0) (v := am_gt M 186 0) R (by decide)
  have F2 := nm_Fr_cp (a := 187) (i := 0) (b := 2) (j := 0) (m := 6) F1 (fun k x y => nm_in_c (lo := 0) (hi := 6) (by decide) x (by omega))
  have F3 := nm_Fr_cp (a := 188) (i := 0) (b := 3) (j := 0) (m := 30) F2 (fun k x y => nm_in_c (lo := 0) (hi := 30) (by decide) x (by omega))
  have F4 := nm_Fr_cp (a := 189) (i := 0) (b := 4) (j := 0) (m := 6) F3 (fun k x y => nm_in_c (lo := 0) (hi := 6) (by decide) x (by omega))
  have F5 := nm_Fr_cp (a := 190) (i := 0) (b := 5) (j := 0) (m := 6) F4 (fun k x y => nm_in_c (lo := 0) (hi := 6) (by decide) x (by omega))
  have F6 := nm_Fr_cp (a := 191) (i := 0) (b := 6) (j := 0) (m := 8) F5 (fun k x y => nm_in_c (lo := 0) (hi := 8) (by decide) x (by omega))
  refine h_1_186_114_0 hL (h_1_186_114_8 (lay F1) ⟨by omega, h_1_186_114_23 (lay F2) ⟨by omega, h_1_186_114_38 (lay F3) ⟨by omega, h_1_186_114_53 (lay F4) ⟨by omega, h_1_186_114_68 (lay F5) ⟨by omega, h_1_186_114_83 (lay F6) ?_⟩⟩⟩⟩⟩)
  generalize hM6 : am_cp (am_cp (am_cp (am_cp (am_cp (am_st M 1 0 (am_gt M 186 0)) 187 0 2 0 6) 188 0 3 0 30) 189 0 4 0 6) 190 0 5 0 6) 191 0 6 0 8 = M6 at F6 ⊢
  have g6 : ∀ a i, a ≠ 1 → a ≠ 2 → a ≠ 3 → a ≠ 4 → a ≠ 5 → a ≠ 6 → am_gt M6 a i = am_gt M a i := by
    intro a i n0 n1 n2 n3 n4 n5
    subst hM6
    simp only [nm_gt_cp, nm_gt_st, n0, n1, n2, n3, n4, n5, false_and, if_false]
  have c6 : ∀ a i j, nm_ci 1 a i j → (j = 0 ∨ (29 ≤ j ∧ j < 85)) → am_gt M6 a i = S j := by
    intro a i j hc hj
    subst hM6
    rcases hc with ⟨rfl, ⟨rfl, rfl⟩ | ⟨rfl, rfl⟩ | ⟨rfl, rfl⟩ | ⟨rfl, rfl⟩ | ⟨rfl, rfl⟩ | ⟨rfl, rfl⟩ | ⟨rfl, rfl⟩⟩ | ⟨rfl, x, y, rfl⟩ | ⟨rfl, x, y, rfl⟩ | ⟨rfl, x, y, rfl⟩ | ⟨rfl, x, y, rfl⟩ | ⟨rfl, x, y, rfl⟩ | ⟨rfl, x, y, rfl⟩ | ⟨rfl, x, y, rfl⟩ | ⟨rfl, x, y, rfl⟩
    · simp only [nm_gt_cp, nm_gt_st, Int.reduceEq, false_and, and_self, if_false, if_true]; exact hS.1
    · omega
    · omega
    · omega
    · omega
    · omega
    · omega
    · simp only [nm_gt_cp, nm_gt_st, Int.reduceAdd, Int.reduceEq, Int.zero_add, x, y, true_and, and_true, false_and, and_self, if_false, if_true, Int.sub_zero, Int.add_zero]; exact nm_CS_at hS (by unfold nm_ci; omega)
    · simp only [nm_gt_cp, nm_gt_st, Int.reduceAdd, Int.reduceEq, Int.zero_add, x, y, true_and, and_true, false_and, and_self, if_false, if_true, Int.sub_zero, Int.add_zero]; exact nm_CS_at hS (by unfold nm_ci; omega)
    · simp only [nm_gt_cp, nm_gt_st, Int.reduceAdd, Int.reduceEq, Int.zero_add, x, y, true_and, and_true, false_and, and_self, if_false, if_true, Int.sub_zero, Int.add_zero]; exact nm_CS_at hS (by unfold nm_ci; omega)
    · simp only [nm_gt_cp, nm_gt_st, Int.reduceAdd, Int.reduceEq, Int.zero_add, x, y, true_and, and_true, false_and, and_self, if_false, if_true, Int.sub_zero, Int.add_zero]; exact nm_CS_at hS (by unfold nm_ci; omega)
    · simp only [nm_gt_cp, nm_gt_st, Int.reduceAdd, Int.reduceEq, Int.zero_add, x, y, true_and, and_true, false_and, and_self, if_false, if_true, Int.sub_zero, Int.add_zero]; exact nm_CS_at hS (by unfold nm_ci; omega)
    · omega
    · omega
    · omega
  have F7 := nm_Fr_st (a := 1) (i := 6) (v := am_gt M6 186 6) F6 (by decide)
  have F8 := nm_Fr_cp (a := 192) (i := 0) (b := 7) (j := 0) (m := 8) F7 (fun k x y => nm_in_c (lo := 0) (hi := 8) (by decide) x (by omega))
  have F9 := nm_Fr_cp (a := 193) (i := 0) (b := 8) (j := 0) (m := 8) F8 (fun k x y => nm_in_c (lo := 0) (hi := 8) (by decide) x (by omega))
  have F10 := nm_Fr_cp (a := 194) (i := 0) (b := 9) (j := 0) (m := 8) F9 (fun k x y => nm_in_c (lo := 0) (hi := 8) (by decide) x (by omega))
  refine h_1_186_114_91 (lay F7) ⟨by omega, h_1_186_114_106 (lay F8) ⟨by omega, h_1_186_114_121 (lay F9) ⟨by omega, h_1_186_114_136 (lay F10) ?_⟩⟩⟩
  generalize hM10 : am_cp (am_cp (am_cp (am_st M6 1 6 (am_gt M6 186 6)) 192 0 7 0 8) 193 0 8 0 8) 194 0 9 0 8 = M10 at F10 ⊢
  have g10 : ∀ a i, (a < 1 ∨ 9 < a) → am_gt M10 a i = am_gt M a i := by
    intro a i n0
    have e0 : (a = 1) = False := eq_false (by omega)
    have e6 : (a = 7) = False := eq_false (by omega)
    have e7 : (a = 8) = False := eq_false (by omega)
    have e8 : (a = 9) = False := eq_false (by omega)
    subst hM10
    simp only [nm_gt_cp, nm_gt_st, e0, e6, e7, e8, false_and, if_false]
    exact g6 a i (by omega) (by omega) (by omega) (by omega) (by omega) (by omega)
  have c10 : ∀ a i j, nm_ci 1 a i j → (j = 0 ∨ j = 1 ∨ 29 ≤ j) → am_gt M10 a i = S j := by
    intro a i j hc hj
    by_cases hj2 : j = 0 ∨ (29 ≤ j ∧ j < 85)
    · have := c6 a i j hc hj2
      subst hM10
      rcases hc with ⟨rfl, ⟨rfl, rfl⟩ | ⟨rfl, rfl⟩ | ⟨rfl, rfl⟩ | ⟨rfl, rfl⟩ | ⟨rfl, rfl⟩ | ⟨rfl, rfl⟩ | ⟨rfl, rfl⟩⟩ | ⟨rfl, x, y, rfl⟩ | ⟨rfl, x, y, rfl⟩ | ⟨rfl, x, y, rfl⟩ | ⟨rfl, x, y, rfl⟩ | ⟨rfl, x, y, rfl⟩ | ⟨rfl, x, y, rfl⟩ | ⟨rfl, x, y, rfl⟩ | ⟨rfl, x, y, rfl⟩
      all_goals first
        | omega
        | (simp only [nm_gt_cp, nm_gt_st, Int.reduceAdd, Int.reduceEq, false_and, and_false, if_false] at this ⊢; exact this)
    · subst hM10
      rcases hc with ⟨rfl, ⟨rfl, rfl⟩ | ⟨rfl, rfl⟩ | ⟨rfl, rfl⟩ | ⟨rfl, rfl⟩ | ⟨rfl, rfl⟩ | ⟨rfl, rfl⟩ | ⟨rfl, rfl⟩⟩ | ⟨rfl, x, y, rfl⟩ | ⟨rfl, x, y, rfl⟩ | ⟨rfl, x, y, rfl⟩ | ⟨rfl, x, y, rfl⟩ | ⟨rfl, x, y, rfl⟩ | ⟨rfl, x, y, rfl⟩ | ⟨rfl, x, y, rfl⟩ | ⟨rfl, x, y, rfl⟩
      all_goals first
        | omega
        | (simp only [nm_gt_cp, nm_gt_st, Int.reduceEq, false_and, and_self, if_false, if_true]; rw [g6 _ _ (by decide) (by decide) (by decide) (by decide) (by decide) (by decide)]; exact hS.2.1)
        | (simp only [nm_gt_cp, nm_gt_st, Int.reduceAdd, Int.reduceEq, Int.zero_add, x, y, true_and, and_true, false_and, and_self, if_false, if_true, Int.sub_zero, Int.add_zero]; rw [g6 _ _ (by decide) (by decide) (by decide) (by decide) (by decide) (by decide)]; exact nm_CS_at hS (by unfold nm_ci; omega))
  have F11 := nm_Fr_st (a := 1) (i := 10) (v := am_gt M10 186 10) F10 (by decide)
  refine h_1_186_114_144 (lay F11) ?_
  have F12 := nm_Fr_st (a := 1) (i := 11) (v := am_gt (am_st M10 1 10 (am_gt M10 186 10)) 186 11) F11 (by decide)
  refine h_1_186_114_152 (lay F12) ?_
  have e11 : am_gt (am_st M10 1 10 (am_gt M10 186 10)) 186 11 = S 6 := by rw [nm_st_ne (by decide), g10 _ _ (by decide)]; exact nm_CS_at hS (by unfold nm_ci; omega)
  have e10 : am_gt M10 186 10 = S 5 := by rw [g10 _ _ (by decide)]; exact nm_CS_at hS (by unfold nm_ci; omega)
  have e12 : am_gt (am_st (am_st M10 1 10 (S 5)) 1 11 (S 6)) 186 12 = S 7 := by rw [nm_st_ne (by decide), nm_st_ne (by decide), g10 _ _ (by decide)]; exact nm_CS_at hS (by unfold nm_ci; omega)
  have e13 : am_gt (am_st (am_st M10 1 10 (S 5)) 1 11 (S 6)) 186 13 = S 2 := by rw [nm_st_ne (by decide), nm_st_ne (by decide), g10 _ _ (by decide)]; exact nm_CS_at hS (by unfold nm_ci; omega)
  rw [e11] at F12 ⊢
  rw [e10] at F12 ⊢
  rw [e12, e13]
  have F14 := nm_Fr_st (a := 1) (i := 13) (v := S 2) (nm_Fr_st (a := 1) (i := 12) (v := S 7) F12 (by decide)) (by decide)
  generalize hM14 : am_st (am_st (am_st (am_st M10 1 10 (S 5)) 1 11 (S 6)) 1 12 (S 7)) 1 13 (S 2) = M14 at F14 ⊢
  have g14 : ∀ a i, (a < 1 ∨ 9 < a) → am_gt M14 a i = am_gt M a i := by
    intro a i n0
    subst hM14
    rw [nm_st_ne (by omega), nm_st_ne (by omega), nm_st_ne (by omega), nm_st_ne (by omega)]
    exact g10 a i n0
  have c14 : ∀ a i j, nm_ci 1 a i j → j ≠ 3 → am_gt M14 a i = S j := by
    intro a i j hc hj
    subst hM14
    by_cases hj2 : j = 0 ∨ j = 1 ∨ 29 ≤ j
    · rw [nm_gt_st, if_neg (by unfold nm_ci at hc; omega), nm_gt_st, if_neg (by unfold nm_ci at hc; omega), nm_gt_st, if_neg (by unfold nm_ci at hc; omega), nm_gt_st, if_neg (by unfold nm_ci at hc; omega)]
      exact c10 a i j hc hj2
    · have hx : a = 1 ∧ ((i = 13 ∧ j = 2) ∨ (i = 10 ∧ j = 5) ∨ (i = 11 ∧ j = 6) ∨ (i = 12 ∧ j = 7)) := by unfold nm_ci at hc; omega
      obtain ⟨rfl, ⟨rfl, rfl⟩ | ⟨rfl, rfl⟩ | ⟨rfl, rfl⟩ | ⟨rfl, rfl⟩⟩ := hx <;> simp only [nm_gt_st, Int.reduceEq, and_false, and_self, if_false, if_true]
  have key : ∀ k : Nat, k ≤ 6 → ∀ M1, nm_Fr (nm_Sg 1 ++ [(10, 0, 6)]) M M1 → nm_Fr [(10, 0, 6)] M14 M1 → (∀ j, 0 ≤ j → j < (k : Int) → am_gt M1 10 j = am_gt M 195 j) → am_WP d am_c114 170 [(2, 1), (2, 186), (0, (k : Int))] [] M1 Q := by
    refine nm_dn ?_
    intro k hk ih M1 F F' a1
    have hL14 := lay F14
    have hL1 := nm_Lay_fr hL F (by decide +kernel)
    have hcg : ∀ a i, (a < 1 ∨ 10 < a) → a < 247 → am_gt M1 a i = am_gt M a i := by
      intro a i n0 n1
      rw [nm_gt_fr F' (by have := hL14.2.2.1; omega) (nm_in_no (by unfold nm_no; simp only [List.all_cons, List.all_nil, Bool.and_true, Bool.not_eq_true', decide_eq_false_iff_not]; omega))]
      exact g14 a i (by omega)
    refine h_1_186_114_170 hL1 ⟨fun h => ⟨by omega, ?_⟩, fun h => ?_⟩
    · have hk6 : k = 6 := by omega
      subst hk6
      have e15 : am_gt M1 186 15 = S 3 := by rw [hcg _ _ (by decide) (by decide)]; exact nm_CS_at hS (by unfold nm_ci; omega)
      rw [e15]
      have F2 : nm_Fr (nm_Sg 1 ++ [(10, 0, 6)]) M (am_st M1 1 15 (S 3)) := nm_Fr_st F (by decide)
      have F2' : nm_Fr [(1, 15, 16)] M1 (am_st M1 1 15 (S 3)) := nm_Fr_st (nm_Fg_refl _ _) (by decide)
      have hL2 := nm_Lay_fr hL F2 (by decide +kernel)
      have hW2 := nm_CW_fr hW hL (by decide) F2 (by decide)
      have cS : nm_CS (am_st M1 1 15 (S 3)) 1 S := by
        refine nm_CS_of (fun a i j hc => ?_)
        by_cases hj : j = 3
        · have hx : a = 1 ∧ i = 15 := by unfold nm_ci at hc; omega
          obtain ⟨rfl, rfl⟩ := hx
          rw [nm_st_eq, hj]
        · have hx : ¬ (a = 1 ∧ i = 15) := by unfold nm_ci at hc; omega
          have hy : a < 247 ∧ a ≠ 10 := by unfold nm_ci at hc; omega
          rw [nm_gt_st, if_neg hx, nm_gt_fr F' (by have := hL14.2.2.1; omega) (nm_in_no (by unfold nm_no; simp only [List.all_cons, List.all_nil, Bool.and_true, Bool.not_eq_true', decide_eq_false_iff_not]; omega))]
          exact c14 a i j hc hj
      refine nmc_136 (by omega) hL2 (by decide) (by decide) (by decide) hW2 (fun M3 F3 hW3 => ?_)
      have hL3 := nm_Lay_fr hL2 F3 (by decide +kernel)
      refine h_1_186_114_213 hL3 (hQ M3 (nm_Fr_trans (nm_Fr_appl F2) (nm_Fr_appr F3)) (nm_CS_fr cS hL2 (by decide) F3 (by decide)) (fun j j0 j1 => ?_) hW3)
      rw [nm_gt_frn F3 hL2 (by decide) (by decide), nm_st_ne (by decide)]
      exact a1 j j0 (by omega)
    · have e9 : am_gt M1 195 (k : Int) = am_gt M 195 (k : Int) := hcg _ _ (by decide) (by decide)
      rw [e9, nm_wk (by omega)]
      refine ⟨by omega, by omega, ?_, ih (by omega) _ (nm_Fr_st F (nm_in_c (lo := 0) (hi := 6) (by decide) (by omega) (by omega))) (nm_Fr_st F' (nm_in_c (lo := 0) (hi := 6) (by decide) (by omega) (by omega))) (fun j j0 j1 => ?_)⟩
      · rcases hT (k : Int) (by omega) (by omega) with e | ⟨e1, e2, e3⟩
        · exact .inl e
        · refine .inr ?_
          rw [show am_kd M1 _ = am_kd M _ from congrArg Prod.fst (F.2.2.2.1 _ e2)]; exact e3
      · rw [nm_gt_st]
        by_cases hj : j = (k : Int)
        · rw [if_pos ⟨rfl, hj⟩, hj]
        · rw [if_neg (fun c => hj c.2)]; exact a1 j j0 (by omega)
  exact key 0 (Nat.zero_le _) M14 (nm_Fr_appl F14) (nm_Fg_refl _ _) (fun j j0 j1 => absurd j1 (by omega))
theorem nmc_114_1_200 {d : Nat} {S : Int → Int} {W : nm_W} {M : am_M} {Q : List am_V → am_M → Prop} (hd : 2 ≤ d) (hL : nm_Lay M) (hS : nm_CS M 200 S) (hT : nm_TX M 200) (hW : nm_CW M 210 W) (hQ : ∀ M', nm_Fr (nm_Sg 1 ++ [(10, 0, 6)] ++ nm_Wg 11) M M' → nm_CS M' 1 S → (∀ k, 0 ≤ k → k < 6 → am_gt M' 10 k = am_gt M 209 k) → nm_CW M' 11 W → Q [] M') : am_CL d 114 [(2, 1), (2, 200)] M Q := by
  have lay : ∀ {M'}, nm_Fr (nm_Sg 1) M M' → nm_Lay M' := fun F => nm_Lay_fr hL F (by decide +kernel)
  have R := nm_Fg_refl (nm_Sg 1) M
  have F1 := nm_Fr_st (a := 1) (i := 0) (v := am_gt M 200 0) R (by decide)
  have F2 := nm_Fr_cp (a := 201) (i := 0) (b := 2) (j := 0) (m := 6) F1 (fun k x y => nm_in_c (lo := 0) (hi := 6) (by decide) x (by omega))
  have F3 := nm_Fr_cp (a := 202) (i := 0) (b := 3) (j := 0) (m := 30) F2 (fun k x y => nm_in_c (lo := 0) (hi := 30) (by decide) x (by omega))
  have F4 := nm_Fr_cp (a := 203) (i := 0) (b := 4) (j := 0) (m := 6) F3 (fun k x y => nm_in_c (lo := 0) (hi := 6) (by decide) x (by omega))
  have F5 := nm_Fr_cp (a := 204) (i := 0) (b := 5) (j := 0) (m := 6) F4 (fun k x y => nm_in_c (lo := 0) (hi := 6) (by decide) x (by omega))
  have F6 := nm_Fr_cp (a := 205) (i := 0) (b := 6) (j := 0) (m := 8) F5 (fun k x y => nm_in_c (lo := 0) (hi := 8) (by decide) x (by omega))
  refine h_1_200_114_0 hL (h_1_200_114_8 (lay F1) ⟨by omega, h_1_200_114_23 (lay F2) ⟨by omega, h_1_200_114_38 (lay F3) ⟨by omega, h_1_200_114_53 (lay F4) ⟨by omega, h_1_200_114_68 (lay F5) ⟨by omega, h_1_200_114_83 (lay F6) ?_⟩⟩⟩⟩⟩)
  generalize hM6 : am_cp (am_cp (am_cp (am_cp (am_cp (am_st M 1 0 (am_gt M 200 0)) 201 0 2 0 6) 202 0 3 0 30) 203 0 4 0 6) 204 0 5 0 6) 205 0 6 0 8 = M6 at F6 ⊢
  have g6 : ∀ a i, a ≠ 1 → a ≠ 2 → a ≠ 3 → a ≠ 4 → a ≠ 5 → a ≠ 6 → am_gt M6 a i = am_gt M a i := by
    intro a i n0 n1 n2 n3 n4 n5
    subst hM6
    simp only [nm_gt_cp, nm_gt_st, n0, n1, n2, n3, n4, n5, false_and, if_false]
  have c6 : ∀ a i j, nm_ci 1 a i j → (j = 0 ∨ (29 ≤ j ∧ j < 85)) → am_gt M6 a i = S j := by
    intro a i j hc hj
    subst hM6
    rcases hc with ⟨rfl, ⟨rfl, rfl⟩ | ⟨rfl, rfl⟩ | ⟨rfl, rfl⟩ | ⟨rfl, rfl⟩ | ⟨rfl, rfl⟩ | ⟨rfl, rfl⟩ | ⟨rfl, rfl⟩⟩ | ⟨rfl, x, y, rfl⟩ | ⟨rfl, x, y, rfl⟩ | ⟨rfl, x, y, rfl⟩ | ⟨rfl, x, y, rfl⟩ | ⟨rfl, x, y, rfl⟩ | ⟨rfl, x, y, rfl⟩ | ⟨rfl, x, y, rfl⟩ | ⟨rfl, x, y, rfl⟩
    · simp only [nm_gt_cp, nm_gt_st, Int.reduceEq, false_and, and_self, if_false, if_true]; exact hS.1
    · omega
    · omega
    · omega
    · omega
    · omega
    · omega
    · simp only [nm_gt_cp, nm_gt_st, Int.reduceAdd, Int.reduceEq, Int.zero_add, x, y, true_and, and_true, false_and, and_self, if_false, if_true, Int.sub_zero, Int.add_zero]; exact nm_CS_at hS (by unfold nm_ci; omega)
    · simp only [nm_gt_cp, nm_gt_st, Int.reduceAdd, Int.reduceEq, Int.zero_add, x, y, true_and, and_true, false_and, and_self, if_false, if_true, Int.sub_zero, Int.add_zero]; exact nm_CS_at hS (by unfold nm_ci; omega)
    · simp only [nm_gt_cp, nm_gt_st, Int.reduceAdd, Int.reduceEq, Int.zero_add, x, y, true_and, and_true, false_and, and_self, if_false, if_true, Int.sub_zero, Int.add_zero]; exact nm_CS_at hS (by unfold nm_ci; omega)
    · simp only [nm_gt_cp, nm_gt_st, Int.reduceAdd, Int.reduceEq, Int.zero_add, x, y, true_and, and_true, false_and, and_self, if_false, if_true, Int.sub_zero, Int.add_zero]; exact nm_CS_at hS (by unfold nm_ci; omega)
    · simp only [nm_gt_cp, nm_gt_st, Int.reduceAdd, Int.reduceEq, Int.zero_add, x, y, true_and, and_true, false_and, and_self, if_false, if_true, Int.sub_zero, Int.add_zero]; exact nm_CS_at hS (by unfold nm_ci; omega)
    · omega
    · omega
    · omega
  have F7 := nm_Fr_st (a := 1) (i := 6) (v := am_gt M6 200 6) F6 (by decide)
  have F8 := nm_Fr_cp (a := 206) (i := 0) (b := 7) (j := 0) (m := 8) F7 (fun k x y => nm_in_c (lo := 0) (hi := 8) (by decide) x (by omega))
  have F9 := nm_Fr_cp (a := 207) (i := 0) (b := 8) (j := 0) (m := 8) F8 (fun k x y => nm_in_c (lo := 0) (hi := 8) (by decide) x (by omega))
  have F10 := nm_Fr_cp (a := 208) (i := 0) (b := 9) (j := 0) (m := 8) F9 (fun k x y => nm_in_c (lo := 0) (hi := 8) (by decide) x (by omega))
  refine h_1_200_114_91 (lay F7) ⟨by omega, h_1_200_114_106 (lay F8) ⟨by omega, h_1_200_114_121 (lay F9) ⟨by omega, h_1_200_114_136 (lay F10) ?_⟩⟩⟩
  generalize hM10 : am_cp (am_cp (am_cp (am_st M6 1 6 (am_gt M6 200 6)) 206 0 7 0 8) 207 0 8 0 8) 208 0 9 0 8 = M10 at F10 ⊢
  have g10 : ∀ a i, (a < 1 ∨ 9 < a) → am_gt M10 a i = am_gt M a i := by
    intro a i n0
    have e0 : (a = 1) = False := eq_false (by omega)
    have e6 : (a = 7) = False := eq_false (by omega)
    have e7 : (a = 8) = False := eq_false (by omega)
    have e8 : (a = 9) = False := eq_false (by omega)
    subst hM10
    simp only [nm_gt_cp, nm_gt_st, e0, e6, e7, e8, false_and, if_false]
    exact g6 a i (by omega) (by omega) (by omega) (by omega) (by omega) (by omega)
  have c10 : ∀ a i j, nm_ci 1 a i j → (j = 0 ∨ j = 1 ∨ 29 ≤ j) → am_gt M10 a i = S j := by
    intro a i j hc hj
    by_cases hj2 : j = 0 ∨ (29 ≤ j ∧ j < 85)
    · have := c6 a i j hc hj2
      subst hM10
      rcases hc with ⟨rfl, ⟨rfl, rfl⟩ | ⟨rfl, rfl⟩ | ⟨rfl, rfl⟩ | ⟨rfl, rfl⟩ | ⟨rfl, rfl⟩ | ⟨rfl, rfl⟩ | ⟨rfl, rfl⟩⟩ | ⟨rfl, x, y, rfl⟩ | ⟨rfl, x, y, rfl⟩ | ⟨rfl, x, y, rfl⟩ | ⟨rfl, x, y, rfl⟩ | ⟨rfl, x, y, rfl⟩ | ⟨rfl, x, y, rfl⟩ | ⟨rfl, x, y, rfl⟩ | ⟨rfl, x, y, rfl⟩
      all_goals first
        | omega
        | (simp only [nm_gt_cp, nm_gt_st, Int.reduceAdd, Int.reduceEq, false_and, and_false, if_false] at this ⊢; exact this)
    · subst hM10
      rcases hc with ⟨rfl, ⟨rfl, rfl⟩ | ⟨rfl, rfl⟩ | ⟨rfl, rfl⟩ | ⟨rfl, rfl⟩ | ⟨rfl, rfl⟩ | ⟨rfl, rfl⟩ | ⟨rfl, rfl⟩⟩ | ⟨rfl, x, y, rfl⟩ | ⟨rfl, x, y, rfl⟩ | ⟨rfl, x, y, rfl⟩ | ⟨rfl, x, y, rfl⟩ | ⟨rfl, x, y, rfl⟩ | ⟨rfl, x, y, rfl⟩ | ⟨rfl, x, y, rfl⟩ | ⟨rfl, x, y, rfl⟩
      all_goals first
        | omega
        | (simp only [nm_gt_cp, nm_gt_st, Int.reduceEq, false_and, and_self, if_false, if_true]; rw [g6 _ _ (by decide) (by decide) (by decide) (by decide) (by decide) (by decide)]; exact hS.2.1)
        | (simp only [nm_gt_cp, nm_gt_st, Int.reduceAdd, Int.reduceEq, Int.zero_add, x, y, true_and, and_true, false_and, and_self, if_false, if_true, Int.sub_zero, Int.add_zero]; rw [g6 _ _ (by decide) (by decide) (by decide) (by decide) (by decide) (by decide)]; exact nm_CS_at hS (by unfold nm_ci; omega))
  have F11 := nm_Fr_st (a := 1) (i := 10) (v := am_gt M10 200 10) F10 (by decide)
  refine h_1_200_114_144 (lay F11) ?_
  have F12 := nm_Fr_st (a := 1) (i := 11) (v := am_gt (am_st M10 1 10 (am_gt M10 200 10)) 200 11) F11 (by decide)
  refine h_1_200_114_152 (lay F12) ?_
  have e11 : am_gt (am_st M10 1 10 (am_gt M10 200 10)) 200 11 = S 6 := by rw [nm_st_ne (by decide), g10 _ _ (by decide)]; exact nm_CS_at hS (by unfold nm_ci; omega)
  have e10 : am_gt M10 200 10 = S 5 := by rw [g10 _ _ (by decide)]; exact nm_CS_at hS (by unfold nm_ci; omega)
  have e12 : am_gt (am_st (am_st M10 1 10 (S 5)) 1 11 (S 6)) 200 12 = S 7 := by rw [nm_st_ne (by decide), nm_st_ne (by decide), g10 _ _ (by decide)]; exact nm_CS_at hS (by unfold nm_ci; omega)
  have e13 : am_gt (am_st (am_st M10 1 10 (S 5)) 1 11 (S 6)) 200 13 = S 2 := by rw [nm_st_ne (by decide), nm_st_ne (by decide), g10 _ _ (by decide)]; exact nm_CS_at hS (by unfold nm_ci; omega)
  rw [e11] at F12 ⊢
  rw [e10] at F12 ⊢
  rw [e12, e13]
  have F14 := nm_Fr_st (a := 1) (i := 13) (v := S 2) (nm_Fr_st (a := 1) (i := 12) (v := S 7) F12 (by decide)) (by decide)
  generalize hM14 : am_st (am_st (am_st (am_st M10 1 10 (S 5)) 1 11 (S 6)) 1 12 (S 7)) 1 13 (S 2) = M14 at F14 ⊢
  have g14 : ∀ a i, (a < 1 ∨ 9 < a) → am_gt M14 a i = am_gt M a i := by
    intro a i n0
    subst hM14
    rw [nm_st_ne (by omega), nm_st_ne (by omega), nm_st_ne (by omega), nm_st_ne (by omega)]
    exact g10 a i n0
  have c14 : ∀ a i j, nm_ci 1 a i j → j ≠ 3 → am_gt M14 a i = S j := by
    intro a i j hc hj
    subst hM14
    by_cases hj2 : j = 0 ∨ j = 1 ∨ 29 ≤ j
    · rw [nm_gt_st, if_neg (by unfold nm_ci at hc; omega), nm_gt_st, if_neg (by unfold nm_ci at hc; omega), nm_gt_st, if_neg (by unfold nm_ci at hc; omega), nm_gt_st, if_neg (by unfold nm_ci at hc; omega)]
      exact c10 a i j hc hj2
    · have hx : a = 1 ∧ ((i = 13 ∧ j = 2) ∨ (i = 10 ∧ j = 5) ∨ (i = 11 ∧ j = 6) ∨ (i = 12 ∧ j = 7)) := by unfold nm_ci at hc; omega
      obtain ⟨rfl, ⟨rfl, rfl⟩ | ⟨rfl, rfl⟩ | ⟨rfl, rfl⟩ | ⟨rfl, rfl⟩⟩ := hx <;> simp only [nm_gt_st, Int.reduceEq, and_false, and_self, if_false, if_true]
  have key : ∀ k : Nat, k ≤ 6 → ∀ M1, nm_Fr (nm_Sg 1 ++ [(10, 0, 6)]) M M1 → nm_Fr [(10, 0, 6)] M14 M1 → (∀ j, 0 ≤ j → j < (k : Int) → am_gt M1 10 j = am_gt M 209 j) → am_WP d am_c114 170 [(2, 1), (2, 200), (0, (k : Int))] [] M1 Q := by
    refine nm_dn ?_
    intro k hk ih M1 F F' a1
    have hL14 := lay F14
    have hL1 := nm_Lay_fr hL F (by decide +kernel)
    have hcg : ∀ a i, (a < 1 ∨ 10 < a) → a < 247 → am_gt M1 a i = am_gt M a i := by
      intro a i n0 n1
      rw [nm_gt_fr F' (by have := hL14.2.2.1; omega) (nm_in_no (by unfold nm_no; simp only [List.all_cons, List.all_nil, Bool.and_true, Bool.not_eq_true', decide_eq_false_iff_not]; omega))]
      exact g14 a i (by omega)
    refine h_1_200_114_170 hL1 ⟨fun h => ⟨by omega, ?_⟩, fun h => ?_⟩
    · have hk6 : k = 6 := by omega
      subst hk6
      have e15 : am_gt M1 200 15 = S 3 := by rw [hcg _ _ (by decide) (by decide)]; exact nm_CS_at hS (by unfold nm_ci; omega)
      rw [e15]
      have F2 : nm_Fr (nm_Sg 1 ++ [(10, 0, 6)]) M (am_st M1 1 15 (S 3)) := nm_Fr_st F (by decide)
      have F2' : nm_Fr [(1, 15, 16)] M1 (am_st M1 1 15 (S 3)) := nm_Fr_st (nm_Fg_refl _ _) (by decide)
      have hL2 := nm_Lay_fr hL F2 (by decide +kernel)
      have hW2 := nm_CW_fr hW hL (by decide) F2 (by decide)
      have cS : nm_CS (am_st M1 1 15 (S 3)) 1 S := by
        refine nm_CS_of (fun a i j hc => ?_)
        by_cases hj : j = 3
        · have hx : a = 1 ∧ i = 15 := by unfold nm_ci at hc; omega
          obtain ⟨rfl, rfl⟩ := hx
          rw [nm_st_eq, hj]
        · have hx : ¬ (a = 1 ∧ i = 15) := by unfold nm_ci at hc; omega
          have hy : a < 247 ∧ a ≠ 10 := by unfold nm_ci at hc; omega
          rw [nm_gt_st, if_neg hx, nm_gt_fr F' (by have := hL14.2.2.1; omega) (nm_in_no (by unfold nm_no; simp only [List.all_cons, List.all_nil, Bool.and_true, Bool.not_eq_true', decide_eq_false_iff_not]; omega))]
          exact c14 a i j hc hj
      refine nmc_136 (by omega) hL2 (by decide) (by decide) (by decide) hW2 (fun M3 F3 hW3 => ?_)
      have hL3 := nm_Lay_fr hL2 F3 (by decide +kernel)
      refine h_1_200_114_213 hL3 (hQ M3 (nm_Fr_trans (nm_Fr_appl F2) (nm_Fr_appr F3)) (nm_CS_fr cS hL2 (by decide) F3 (by decide)) (fun j j0 j1 => ?_) hW3)
      rw [nm_gt_frn F3 hL2 (by decide) (by decide), nm_st_ne (by decide)]
      exact a1 j j0 (by omega)
    · have e9 : am_gt M1 209 (k : Int) = am_gt M 209 (k : Int) := hcg _ _ (by decide) (by decide)
      rw [e9, nm_wk (by omega)]
      refine ⟨by omega, by omega, ?_, ih (by omega) _ (nm_Fr_st F (nm_in_c (lo := 0) (hi := 6) (by decide) (by omega) (by omega))) (nm_Fr_st F' (nm_in_c (lo := 0) (hi := 6) (by decide) (by omega) (by omega))) (fun j j0 j1 => ?_)⟩
      · rcases hT (k : Int) (by omega) (by omega) with e | ⟨e1, e2, e3⟩
        · exact .inl e
        · refine .inr ?_
          rw [show am_kd M1 _ = am_kd M _ from congrArg Prod.fst (F.2.2.2.1 _ e2)]; exact e3
      · rw [nm_gt_st]
        by_cases hj : j = (k : Int)
        · rw [if_pos ⟨rfl, hj⟩, hj]
        · rw [if_neg (fun c => hj c.2)]; exact a1 j j0 (by omega)
  exact key 0 (Nat.zero_le _) M14 (nm_Fr_appl F14) (nm_Fg_refl _ _) (fun j j0 j1 => absurd j1 (by omega))
