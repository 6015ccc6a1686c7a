/-! CODE OF THE REFERENCE: what a stretch of it does -/
abbrev nm_mg : nm_Rg := [(234, 0, 400), (214, 38, 39)]
abbrev nm_at204 (d : Nat) (x1 x2 n k : Int) (l5 l6 : am_V) (M : am_M) (Q : List am_V → am_M → Prop) : Prop := am_WP d am_c204 10 [(2, 214), (0, x1), (0, x2), (0, n), (0, k), l5, l6] [] M Q
/-- the word that a leaf stands for: a law's (o = 0), an order's (o = 1) -/
def nm_mlf (o op ar w : Int) : Prop := (o = 0 ∧ 1 ≤ op ∧ op ≤ 8 ∧ w = op - 1) ∨ (o = 1 ∧ 1 ≤ op ∧ op ≤ 4 ∧ w = op - 1) ∨ (o = 1 ∧ op = 5 ∧ 0 ≤ ar ∧ ar < 6 ∧ w = 4 + ar) ∨ (o = 1 ∧ op = 6 ∧ 0 ≤ ar ∧ ar < 8 ∧ w = 10 + ar)
def nm_mN (o : Int) : Int := if o = 0 then 8 else 18
def nm_be (o : Int) (e : Int → Int) : Prop := ∀ k, 0 ≤ k → k < nm_mN o → nm_bd (e k)
/-- the words of a law lie in 232, those of orders in 233 and in the row -/
def nm_mwd (o : Int) (e : Int → Int) (M : am_M) : Prop :=
  (o = 0 ∧ ∀ w, 0 ≤ w → w < 8 → am_gt M 232 (w + 1) = e w) ∨
  (o = 1 ∧ (∀ w, 0 ≤ w → w < 4 → am_gt M 233 (w + 1) = e w) ∧ (0 ≤ am_gt M 216 0 ∧ am_gt M 216 0 ≤ 6) ∧ (∀ m, 0 ≤ m → m < 6 → (if m < am_gt M 216 0 then am_gt M 216 (15 + m) else -1) = e (4 + m)) ∧ (∀ p, 0 ≤ p → p < 8 → am_gt M 216 (21 + p) = e (10 + p)))
def nm_mcd (o : Int) (cop car : Int → Int) (i j : Int) (M : am_M) : Prop :=
  (o = 0 ∧ 110 ≤ am_gt M 214 34 ∧ am_gt M 214 34 ≤ 4610 ∧ ∀ k, i ≤ k → k < j → am_gt M 216 (am_gt M 214 34 + 98 + 2 * k) = cop k ∧ am_gt M 216 (am_gt M 214 34 + 98 + 2 * k + 1) = car k) ∨
  (o = 1 ∧ ∀ k, i ≤ k → k < j → am_gt M 225 k = cop k ∧ am_gt M 226 k = car k)
def nm_mhold (o : Int) (cop car : Int → Int) (i j : Int) (e : Int → Int) (M : am_M) : Prop := nm_Lay M ∧ am_gt M 214 20 = o ∧ 0 ≤ i ∧ j ≤ 400 ∧ nm_be o e ∧ nm_mcd o cop car i j M ∧ nm_mwd o e M
def nm_MB (o : Int) (cop car : Int → Int) (i j ht : Int) (f : (Int → Int) → Option Int) : Prop := i < j ∧ 1 ≤ ht ∧ (∀ e, nm_be o e → ∀ v, f e = some v → nm_bd v) ∧
  ∀ (d : Nat) (M : am_M) (x1 x2 n : Int) (e : Int → Int) (Q : List am_V → am_M → Prop) (l5 l6 : am_V), 3 ≤ d → nm_mhold o cop car i j e M → am_gt M 214 38 = 0 → j ≤ x2 → 0 ≤ n → n + ht ≤ 400 →
    (∀ v M' l5 l6, f e = some v → nm_Fr nm_mg M M' → (∀ k, k < n → am_gt M' 234 k = am_gt M 234 k) → am_gt M' 234 n = v → am_gt M' 214 38 = 0 → nm_at204 d x1 x2 (n + 1) j l5 l6 M' Q) →
    (f e = none → ∀ M' n' k' l5 l6, nm_Fr nm_mg M M' → am_gt M' 214 38 = 1 → nm_at204 d x1 x2 n' k' l5 l6 M' Q) → nm_at204 d x1 x2 n i l5 l6 M Q
theorem nm_mhold_fr {o : Int} {cop car : Int → Int} {i j : Int} {e : Int → Int} {M M' : am_M} (h : nm_mhold o cop car i j e M) (hF : nm_Fr nm_mg M M') : nm_mhold o cop car i j e M' := by
  obtain ⟨h1, h2, h3, h4, h5, h6, h7⟩ := h
  have k1 : am_gt M' 214 34 = am_gt M 214 34 := nm_gt_frd (g := [(214, 34, 35)]) hF h1 (by decide) (by decide) (by decide)
  have k2 : am_gt M' 214 20 = am_gt M 214 20 := nm_gt_frd (g := [(214, 20, 21)]) hF h1 (by decide) (by decide) (by decide)
  have k3 : ∀ a i, a = 216 ∨ a = 225 ∨ a = 226 ∨ a = 232 ∨ a = 233 → am_gt M' a i = am_gt M a i := by
    intro a i ha
    rcases ha with rfl | rfl | rfl | rfl | rfl <;> exact nm_gt_frn hF h1 (by decide) (by decide)
  refine ⟨nm_Lay_fr h1 hF (by decide +kernel), k2.trans h2, h3, h4, h5, ?_, ?_⟩
  · unfold nm_mcd at *
    rw [k1]
    simp only [k3 216 _ (.inl rfl), k3 225 _ (.inr (.inl rfl)), k3 226 _ (.inr (.inr (.inl rfl)))]
    exact h6
  · unfold nm_mwd at *
    simp only [k3 216 _ (.inl rfl), k3 232 _ (.inr (.inr (.inr (.inl rfl)))), k3 233 _ (.inr (.inr (.inr (.inr rfl))))]
    exact h7
theorem nm_mhold_sub {o : Int} {cop car : Int → Int} {i j i' j' : Int} {e : Int → Int} {M : am_M} (h : nm_mhold o cop car i j e M) (hi : i ≤ i') (hj : j' ≤ j) : nm_mhold o cop car i' j' e M := by
  obtain ⟨h1, h2, h3, h4, h5, h6, h7⟩ := h
  refine ⟨h1, h2, by omega, by omega, h5, ?_, h7⟩
  rcases h6 with ⟨a, b, c, g⟩ | ⟨a, g⟩
  · exact .inl ⟨a, b, c, fun k x y => g k (by omega) (by omega)⟩
  · exact .inr ⟨a, fun k x y => g k (by omega) (by omega)⟩
theorem nm_mfetch {o : Int} {cop car : Int → Int} {i j k : Int} {e : Int → Int} {d : Nat} {x1 x2 n : Int} {l5 l6 : am_V} {M : am_M} {Q : List am_V → am_M → Prop} (hh : nm_mhold o cop car i j e M) (h1 : i ≤ k) (h2 : k < j) (hb : am_gt M 214 38 = 0) (hx : j ≤ x2) (h : am_WP d am_c204 95 [(2, 214), (0, x1), (0, x2), (0, n), (0, k), (0, cop k), l6] [(0, car k)] M Q) : nm_at204 d x1 x2 n k l5 l6 M Q := by
  obtain ⟨hL, ho, hi, hj, he, hc, hw⟩ := hh
  refine h_204_10 hL ⟨fun h => absurd h (by omega), fun _ => ⟨fun h => absurd hb h, fun _ => ?_⟩⟩
  rcases hc with ⟨rfl, a, b, c⟩ | ⟨rfl, c⟩
  · obtain ⟨c1, c2⟩ := c k h1 h2
    have w1 : am_w (am_w (am_gt M 214 34 + 98) + am_w (2 * k)) = am_gt M 214 34 + 98 + 2 * k := by rw [am_w_id (x := am_gt M 214 34 + 98) (by omega) (by omega), am_w_id (x := 2 * k) (by omega) (by omega), am_w_id (by omega) (by omega)]
    refine ⟨fun _ => ?_, fun h => absurd ho h⟩
    rw [w1, c1]
    refine ⟨by omega, by omega, h_204_57 hL ⟨fun _ => ?_, fun h => absurd ho h⟩⟩
    rw [w1, am_w_id (by omega) (by omega), c2]
    exact ⟨by omega, by omega, h⟩
  · obtain ⟨c1, c2⟩ := c k h1 h2
    refine ⟨fun h => absurd h (by omega), fun _ => ⟨by omega, by omega, ?_⟩⟩
    rw [c1]
    refine h_204_57 hL ⟨fun h => absurd h (by omega), fun _ => ⟨by omega, by omega, ?_⟩⟩
    rw [c2]
    exact h
theorem nm_m142 {d : Nat} {v lo hi : Int} {M : am_M} {Q : List am_V → am_M → Prop} (hL : nm_Lay M) (hQ : Q [(0, if lo ≤ v ∧ v ≤ hi then 1 else 0)] M) : am_CL d 142 [(1, v), (1, lo), (1, hi)] M Q := by
  refine h_142_0 hL ⟨fun h => ?_, fun h => ⟨fun h2 => ?_, fun h2 => ?_⟩⟩
  · have : v < lo := by unfold am_lcmp at h; split at h; · omega
                        · split at h <;> omega
    rw [if_neg (by omega)] at hQ; exact hQ
  · rw [nm_lc3] at h2; rw [if_neg (by omega)] at hQ; exact hQ
  · rw [nm_lc3] at h2
    have : ¬ v < lo := by unfold am_lcmp at h; split at h; · omega
                          · split at h <;> omega
    rw [if_pos (by omega)] at hQ; exact hQ
theorem nm_m144 {d : Nat} {v lo hi : Int} {M : am_M} {Q : List am_V → am_M → Prop} (hL : nm_Lay M) (h1 : -2147483648 ≤ lo) (h2 : hi ≤ 2147483647) (hQ : Q [(0, nm_cut v lo hi)] M) : am_CL d 144 [(1, v), (0, lo), (0, hi)] M Q := by
  unfold nm_cut at hQ
  refine h_144_0 hL ⟨fun h => ⟨fun h2 => ?_, fun h2 => ?_⟩, fun h => ?_⟩
  · rw [nm_lc1] at h; rw [nm_lc2] at h2
    rw [if_neg (by omega), if_neg (by omega)] at hQ; rw [am_w_id (by omega) (by omega)]; exact hQ
  · rw [nm_lc1] at h; rw [nm_lc2] at h2
    rw [if_neg (by omega), if_pos (by omega)] at hQ; exact hQ
  · rw [nm_lc1] at h; rw [if_pos (by omega)] at hQ; exact hQ
theorem nm_m154 {d : Nat} {m : Int} {M : am_M} {Q : List am_V → am_M → Prop} (hd : 1 ≤ d) (hL : nm_Lay M) (h0 : 0 ≤ am_gt M 216 0) (h6 : am_gt M 216 0 ≤ 6) (hQ : Q [(0, if 0 ≤ m ∧ m < am_gt M 216 0 then 1 else 0)] M) : am_CL d 154 [(2, 214), (0, m)] M Q := by
  refine h_154_0 hL ⟨by omega, nm_m142 hL ?_⟩
  rw [am_wl_id (by omega) (by omega)]
  refine h_154_15 hL ⟨?_, ?_⟩
  · split <;> simp
  · by_cases h : 0 ≤ m ∧ m < am_gt M 216 0
    · rw [if_pos h] at hQ; rw [if_pos (by omega)]; exact hQ
    · rw [if_neg h] at hQ; rw [if_neg (by omega)]; exact hQ
/-- a number, or a word -/
theorem nm_mb_push {o : Int} {cop car : Int → Int} {i : Int} {f : (Int → Int) → Option Int} (op ar : Int) (hc : cop i = op) (hc' : car i = ar) (ho : (op = 0 ∧ 0 ≤ ar ∧ ar ≤ 1000 ∧ f = fun _ => some ar) ∨ ∃ w, nm_mlf o op ar w ∧ f = fun e => some (e w)) : nm_MB o cop car i (i + 1) 1 f := by
  refine ⟨by omega, by omega, ?_, ?_⟩
  · intro e he v hv
    rcases ho with ⟨-, h1, h2, rfl⟩ | ⟨w, hw, rfl⟩
    · cases hv; exact ⟨by omega, by omega⟩
    · cases hv
      refine he w ?_ ?_
      · rcases hw with h | h | h | h <;> omega
      · unfold nm_mN
        rcases hw with h | h | h | h
        · rw [if_pos h.1]; omega
        · rw [if_neg (by omega)]; omega
        · rw [if_neg (by omega)]; omega
        · rw [if_neg (by omega)]; omega
  · intro d M x1 x2 n e Q l5 l6 hd hh hb hx hn hht hK hN
    refine nm_mfetch hh (Int.le_refl _) (by omega) hb hx ?_
    have hL := hh.1
    have hord := hh.2.1
    have hwd := hh.2.2.2.2.2.2
    have hj := hh.2.2.2.1
    have hi := hh.2.2.1
    rw [hc, hc']
    have w1 : am_w (n + 1) = n + 1 := am_w_id (by omega) (by omega)
    have w2 : am_w (i + 1) = i + 1 := am_w_id (by omega) (by omega)
    have fin : ∀ v : Int, f e = some v → nm_at204 d x1 x2 (am_w (n + 1)) (am_w (i + 1)) (0, op) (0, ar) (am_st M 234 n v) Q := by
      intro v hv
      rw [w1, w2]
      refine hK v _ _ _ hv (nm_Fr_st (nm_Fg_refl _ _) (nm_in_c (lo := 0) (hi := 400) (by simp only [List.mem_cons, true_or]) hn (by omega))) (fun k hk => ?_) ?_ ?_
      · rw [nm_gt_st, if_neg (by omega)]
      · rw [nm_gt_st, if_pos ⟨rfl, rfl⟩]
      · rw [nm_gt_st, if_neg (by omega)]; exact hb
    refine h_204_95 hL ⟨fun h => ?_, fun _ => ⟨fun hz => ⟨fun h1 => ⟨fun h5 => ⟨fun h5' => ?_, fun h5' => ?_⟩, fun h5 => ?_⟩, fun h0 => ?_⟩, fun hz => ?_⟩⟩
    · rcases ho with ⟨h0, -⟩ | ⟨w, hw, -⟩
      · omega
      · rcases hw with h | h | h | h <;> omega
    · -- silver
      refine ⟨by omega, ?_⟩
      rcases ho with ⟨h0, -⟩ | ⟨w, hw, rfl⟩
      · omega
      rcases hw with h | h | h | h
      · omega
      · omega
      · rcases hwd with ⟨q, -⟩ | ⟨-, q1, q2, q3, q4⟩
        · omega
        refine nm_m154 (by omega) hL q2.1 q2.2 ?_
        have := q3 ar (by omega) (by omega)
        refine h_204_182 hL ⟨fun hm => ⟨hn, by omega, ?_⟩, fun hm => ?_⟩
        · rw [if_neg (fun hlt => by rw [if_pos ⟨by omega, hlt⟩] at hm; exact absurd hm (by decide))] at this
          rw [this, show 4 + ar = w by omega]
          exact fin _ rfl
        · rw [am_w_id (by omega) (by omega)]
          refine ⟨by omega, by omega, hn, by omega, ?_⟩
          rw [if_pos (by by_cases hlt : ar < am_gt M 216 0; · exact hlt
                         · rw [if_neg (fun h => hlt h.2)] at hm; exact absurd rfl hm)] at this
          rw [this, show 4 + ar = w by omega]
          exact fin _ rfl
      · omega
    · -- stock
      rcases ho with ⟨h0, -⟩ | ⟨w, hw, rfl⟩
      · omega
      rcases hw with h | h | h | h
      · omega
      · omega
      · omega
      · rcases hwd with ⟨q, -⟩ | ⟨-, q1, q2, q3, q4⟩
        · omega
        rw [am_w_id (x := 21 + ar) (by omega) (by omega)]
        refine ⟨by omega, by omega, hn, by omega, ?_⟩
        rw [q4 ar (by omega) (by omega), show 10 + ar = w by omega]
        exact fin _ rfl
    · -- now
      rcases ho with ⟨h0, -⟩ | ⟨w, hw, rfl⟩
      · omega
      rcases hw with h | h | h | h
      · omega
      · rcases hwd with ⟨q, -⟩ | ⟨-, q1, q2, q3, q4⟩
        · omega
        refine ⟨by omega, by omega, hn, by omega, ?_⟩
        have := q1 w (by omega) (by omega)
        rw [show w + 1 = op by omega] at this
        rw [this]
        exact fin _ rfl
      · omega
      · omega
    · -- set
      rcases ho with ⟨h0', -⟩ | ⟨w, hw, rfl⟩
      · omega
      rcases hwd with ⟨q0, q⟩ | ⟨q0, -⟩
      rotate_left
      · omega
      rcases hw with h | h | h | h
      · refine ⟨by omega, by omega, hn, by omega, ?_⟩
        have := q w (by omega) (by omega)
        rw [show w + 1 = op by omega] at this
        rw [this]
        exact fin _ rfl
      · omega
      · omega
      · omega
    · -- a number
      rcases ho with ⟨h0', -, -, rfl⟩ | ⟨w, hw, -⟩
      · exact ⟨hn, by omega, fin _ rfl⟩
      · rcases hw with h | h | h | h <;> omega
theorem nm_m203 {d : Nat} {op a b : Int} {M : am_M} {Q : List am_V → am_M → Prop} (ho : 6 ≤ op ∧ op ≤ 13) (ha : nm_bd a) (hb : nm_bd b) (hL : nm_Lay M) (hz : am_gt M 214 38 = 0) (hQ : ∀ v M', nm_Fr [(214, 38, 39)] M M' → ((op = 9 ∨ op = 10) ∧ b = 0 → am_gt M' 214 38 = 1) → (¬ ((op = 9 ∨ op = 10) ∧ b = 0) → am_gt M' 214 38 = 0 ∧ v = nm_jv op a b) → Q [(1, v)] M') : am_CL d 203 [(2, 214), (0, op + 14), (1, a), (1, b)] M Q := by
  have e1 := ha.1; have e2 := ha.2; have e3 := hb.1; have e4 := hb.2
  have hmul := nm_mulb ha hb
  have hdiv := nm_divb (b := b) ha
  have hmod := nm_modb (b := b) ha
  have F0 : nm_Fr [(214, 38, 39)] M M := nm_Fg_refl _ _
  have F1 : ∀ v, nm_Fr [(214, 38, 39)] M (am_st M 214 38 v) := fun v => nm_Fr_st F0 (by decide)
  have g1 : ∀ v, am_gt (am_st M 214 38 v) 214 38 = v := fun v => by rw [nm_gt_st, if_pos ⟨rfl, rfl⟩]
  refine h_203_0 hL ⟨fun h => ?_, fun h6 => ⟨fun h => ?_, fun h7 => ⟨fun h => ?_, fun h8 => ⟨fun h => ⟨fun c => ?_, fun c => ?_⟩, fun h9 => ⟨fun h => ⟨fun c => ⟨fun _ => ?_, fun h => absurd rfl h⟩, fun c => ⟨fun h => absurd h (by decide), fun _ => ?_⟩⟩, fun h10 => ⟨fun h => ⟨fun c => ?_, fun c => ?_⟩, fun h11 => ⟨fun h => ⟨fun c => ?_, fun c => ?_⟩, fun h12 => ⟨fun c => ?_, fun c => ?_⟩⟩⟩⟩⟩⟩⟩⟩
  · rw [am_wl_id (by omega) (by omega)]
    exact hQ _ M F0 (fun q => by omega) (fun _ => ⟨hz, by unfold nm_jv; rw [if_pos (by omega)]⟩)
  · rw [am_wl_id (by omega) (by omega)]
    exact hQ _ M F0 (fun q => by omega) (fun _ => ⟨hz, by unfold nm_jv; rw [if_neg (by omega), if_pos (by omega)]⟩)
  · rw [am_wl_id (by omega) (by omega)]
    exact hQ _ M F0 (fun q => by omega) (fun _ => ⟨hz, by unfold nm_jv; rw [if_neg (by omega), if_neg (by omega), if_pos (by omega)]⟩)
  · rw [nm_lc0] at c
    refine h_203_72 hL ⟨.inl rfl, fun _ => ⟨c, ?_⟩, fun h => absurd rfl h⟩
    have := hdiv.1; have := hdiv.2
    rw [am_wl_id (by omega) (by omega)]
    exact hQ _ _ (F1 0) (fun q => absurd q.2 c) (fun _ => ⟨g1 0, by unfold nm_jv; rw [if_neg (by omega), if_neg (by omega), if_neg (by omega), if_pos (by omega)]⟩)
  · rw [nm_lc0] at c
    refine h_203_72 hL ⟨.inr rfl, fun h => absurd h (by decide), fun _ => ?_⟩
    exact hQ _ _ (F1 1) (fun _ => g1 1) (fun q => absurd ⟨.inl (by omega), by omega⟩ q)
  · rw [nm_lc0] at c
    refine ⟨c, ?_⟩
    exact hQ _ _ (F1 0) (fun q => absurd q.2 c) (fun _ => ⟨g1 0, by unfold nm_jv; rw [if_neg (by omega), if_neg (by omega), if_neg (by omega), if_neg (by omega), if_pos (by omega)]⟩)
  · rw [nm_lc0] at c
    exact hQ _ _ (F1 1) (fun _ => g1 1) (fun q => absurd ⟨.inr (by omega), by omega⟩ q)
  · rw [nm_lc1] at c
    exact hQ _ M F0 (fun q => by omega) (fun _ => ⟨hz, by unfold nm_jv; rw [if_neg (by omega), if_neg (by omega), if_neg (by omega), if_neg (by omega), if_neg (by omega), if_pos (by omega), if_neg (by omega)]⟩)
  · rw [nm_lc1] at c
    exact hQ _ M F0 (fun q => by omega) (fun _ => ⟨hz, by unfold nm_jv; rw [if_neg (by omega), if_neg (by omega), if_neg (by omega), if_neg (by omega), if_neg (by omega), if_pos (by omega), if_pos (by omega)]⟩)
  · rw [nm_lc2] at c
    exact hQ _ M F0 (fun q => by omega) (fun _ => ⟨hz, by unfold nm_jv; rw [if_neg (by omega), if_neg (by omega), if_neg (by omega), if_neg (by omega), if_neg (by omega), if_neg (by omega), if_pos (by omega), if_neg (by omega)]⟩)
  · rw [nm_lc2] at c
    exact hQ _ M F0 (fun q => by omega) (fun _ => ⟨hz, by unfold nm_jv; rw [if_neg (by omega), if_neg (by omega), if_neg (by omega), if_neg (by omega), if_neg (by omega), if_neg (by omega), if_pos (by omega), if_pos (by omega)]⟩)
  · rw [nm_lc0] at c
    exact hQ _ M F0 (fun q => by omega) (fun _ => ⟨hz, by unfold nm_jv; rw [if_neg (by omega), if_neg (by omega), if_neg (by omega), if_neg (by omega), if_neg (by omega), if_neg (by omega), if_neg (by omega), if_neg c]⟩)
  · rw [nm_lc0] at c
    exact hQ _ M F0 (fun q => by omega) (fun _ => ⟨hz, by unfold nm_jv; rw [if_neg (by omega), if_neg (by omega), if_neg (by omega), if_neg (by omega), if_neg (by omega), if_neg (by omega), if_neg (by omega), if_pos (by omega)]⟩)
theorem nm_jn_bd {op a b v : Int} (h : nm_jn op a b = some v) : nm_bd v := by
  unfold nm_jn at h
  split at h
  · cases h
  · split at h
    · cases h
    · cases h; exact ⟨by omega, by omega⟩
theorem nm_jv_wl {op a b : Int} (ha : nm_bd a) (hb : nm_bd b) : -1000000000000000000 ≤ nm_jv op a b ∧ nm_jv op a b ≤ 1000000000000000000 := by
  have e1 := ha.1; have e2 := ha.2; have e3 := hb.1; have e4 := hb.2
  have hmul := nm_mulb ha hb
  have hdiv := nm_divb (b := b) ha
  have hmod := nm_modb (b := b) ha
  have := hdiv.1; have := hdiv.2; have := hmod.1; have := hmod.2
  unfold nm_jv
  repeat' split
  all_goals omega
/-- two joined -/
theorem nm_mb_bin {o : Int} {cop car : Int → Int} {i j k h1 h2 : Int} {f g : (Int → Int) → Option Int} (op : Int) (ho : 6 ≤ op ∧ op ≤ 13) (hc : cop k = op + 14) (hf : nm_MB o cop car i j h1 f) (hg : nm_MB o cop car j k h2 g) : nm_MB o cop car i (k + 1) (max h1 (h2 + 1)) (nm_bin op f g) := by
  obtain ⟨f0, f00, f1, f3⟩ := hf
  obtain ⟨g0, g00, g1, g3⟩ := hg
  refine ⟨by omega, by omega, ?_, ?_⟩
  · intro e he v hv
    unfold nm_bin at hv
    cases hfe : f e with
    | none => rw [hfe] at hv; cases hv
    | some x =>
      rw [hfe] at hv
      cases hge : g e with
      | none => rw [hge] at hv; cases hv
      | some y =>
        rw [hge] at hv
        exact nm_jn_bd hv
  · intro d M x1 x2 n e Q l5 l6 hd hh hb hx hn hht hK hN
    have hbe := hh.2.2.2.2.1
    refine f3 d M x1 x2 n e Q l5 l6 hd (nm_mhold_sub hh (Int.le_refl _) (by omega)) hb (by omega) hn (by omega) ?_ ?_
    · intro x M1 l5 l6 hxx F1 k1 v1 b1
      have hh1 := nm_mhold_fr hh F1
      refine g3 d M1 x1 x2 (n + 1) e Q l5 l6 hd (nm_mhold_sub hh1 (by omega) (by omega)) b1 (by omega) (by omega) (by omega) ?_ ?_
      · intro y M2 l5 l6 hyy F2 k2 v2 b2
        have hh2 := nm_mhold_fr hh1 F2
        have bx := f1 e hbe x hxx
        have by' := g1 e hbe y hyy
        have hL := hh2.1
        have hi0 := hh2.2.2.1
        have hj4 := hh2.2.2.2.1
        have F12 := nm_Fr_trans F1 F2
        have hval : nm_bin op f g e = nm_jn op x y := by unfold nm_bin; rw [hxx]; simp only; rw [hyy]
        refine nm_mfetch hh2 (by omega) (by omega) b2 hx ?_
        rw [hc]
        have w1 : am_w (n + 1 + 1 + -1) = n + 1 := by rw [am_w_id (by omega) (by omega)]; omega
        have w2 : am_w (n + 1 - 1) = n := by rw [am_w_id (by omega) (by omega)]; omega
        have w3 : am_w (k + 1) = k + 1 := am_w_id (by omega) (by omega)
        refine h_204_95 hL ⟨fun _ => ⟨fun h => absurd h (by omega), fun _ => ?_⟩, fun h => absurd h (by omega)⟩
        rw [w1, w2, w3, v2, k2 n (by omega), v1]
        refine ⟨by omega, by omega, by omega, by omega, by omega, nm_m203 ho bx by' hL b2 (fun v M3 F3 z1 z2 => ?_)⟩
        have F3' : nm_Fr nm_mg M2 M3 := nm_Fr_sub F3 (by decide)
        have F13 := nm_Fr_trans F12 F3'
        have hL3 := (nm_mhold_fr hh2 F3').1
        have k3 : ∀ q, am_gt M3 234 q = am_gt M2 234 q := fun q => nm_gt_frn F3 hL (by decide) (by decide)
        have m234 : ((234, 0, 400) : Int × Int × Int) ∈ nm_mg := by simp only [List.mem_cons, true_or]
        have F4 := nm_Fr_st (v := v) F13 (nm_in_c m234 hn (show n < 400 by omega))
        have F5 : ∀ u, nm_Fr nm_mg M (am_st (am_st M3 234 n v) 214 38 u) := fun u => nm_Fr_st F4 (by decide)
        have kk : ∀ u q, q < n → am_gt (am_st (am_st M3 234 n v) 214 38 u) 234 q = am_gt M 234 q := by
          intro u q hq
          rw [nm_gt_st, if_neg (by omega), nm_gt_st, if_neg (by omega), k3, k2 q (by omega), k1 q hq]
        have kn : ∀ u, am_gt (am_st (am_st M3 234 n v) 214 38 u) 234 n = v := by
          intro u
          rw [nm_gt_st, if_neg (by omega), nm_gt_st, if_pos ⟨rfl, rfl⟩]
        have kb : ∀ u, am_gt (am_st (am_st M3 234 n v) 214 38 u) 214 38 = u := by
          intro u
          rw [nm_gt_st, if_pos ⟨rfl, rfl⟩]
        have hL4 : nm_Lay (am_st M3 234 n v) := nm_Lay_fr hh.1 F4 (by decide +kernel)
        refine h_204_246 hL3 ⟨hn, by omega, fun hbr => ?_, fun hbr => ?_⟩
        · have hz : (op = 9 ∨ op = 10) ∧ y = 0 := by
            by_cases hz : (op = 9 ∨ op = 10) ∧ y = 0
            · exact hz
            · exact absurd (z2 hz).1 hbr
          exact hN (hval.trans (by unfold nm_jn; rw [if_pos hz])) _ _ _ _ _ (F5 1) (kb 1)
        · have hz : ¬ ((op = 9 ∨ op = 10) ∧ y = 0) := fun hz => hbr (by rw [z1 hz]; decide)
          obtain ⟨z3, z4⟩ := z2 hz
          rw [w2]
          refine ⟨by omega, by omega, by omega, nm_m142 hL4 ?_⟩
          rw [show am_gt (am_st M3 234 n v) 234 n = v by rw [nm_gt_st, if_pos ⟨rfl, rfl⟩]]
          refine h_204_272 hL4 ⟨fun hin => ?_, fun hin => ?_⟩
          · have hin' : -1000000000 ≤ v ∧ v ≤ 1000000000 := by
              by_cases hc' : -1000000000 ≤ v ∧ v ≤ 1000000000
              · exact hc'
              · rw [if_neg hc'] at hin; exact absurd rfl hin
            exact hK v _ _ _ (hval.trans (by unfold nm_jn; rw [if_neg hz, ← z4, if_neg (by omega)])) (F5 0) (kk 0) (kn 0) (kb 0)
          · have hin' : ¬ (-1000000000 ≤ v ∧ v ≤ 1000000000) := by
              intro hc'
              rw [if_pos hc'] at hin; exact hin (by decide)
            exact hN (hval.trans (by unfold nm_jn; rw [if_neg hz, ← z4, if_pos (by omega)])) _ _ _ _ _ (F5 1) (kb 1)
      · intro hyy M2 n' k' l5 l6 F2 b2
        exact hN (by unfold nm_bin; rw [hxx]; simp only; rw [hyy]) _ _ _ _ _ (nm_Fr_trans F1 F2) b2
    · intro hxx M1 n' k' l5 l6 F1 b1
      exact hN (by unfold nm_bin; rw [hxx]) _ _ _ _ _ F1 b1
theorem nm_mb_not {o : Int} {cop car : Int → Int} {i j h1 : Int} {f : (Int → Int) → Option Int} (hb01 : nm_b01 f) (hc : cop j = 28) (hf : nm_MB o cop car i j h1 f) : nm_MB o cop car i (j + 1) h1 (nm_not f) := by
  obtain ⟨f0, f00, f1, f3⟩ := hf
  refine ⟨by omega, f00, ?_, ?_⟩
  · intro e he v hv
    unfold nm_not at hv
    cases hfe : f e with
    | none => rw [hfe] at hv; cases hv
    | some x =>
      rw [hfe] at hv; cases hv
      rcases hb01 e x hfe with rfl | rfl
      · exact ⟨by decide, by decide⟩
      · exact ⟨by decide, by decide⟩
  · intro d M x1 x2 n e Q l5 l6 hd hh hb hx hn hht hK hN
    refine f3 d M x1 x2 n e Q l5 l6 hd (nm_mhold_sub hh (Int.le_refl _) (by omega)) hb (by omega) hn (by omega) ?_ ?_
    · intro x M1 l5 l6 hxx F1 k1 v1 b1
      have hh1 := nm_mhold_fr hh F1
      have hi0 := hh1.2.2.1
      have hj4 := hh1.2.2.2.1
      have hx01 := hb01 e x hxx
      refine nm_mfetch hh1 (by omega) (by omega) b1 hx ?_
      rw [hc]
      have w1 : am_w (n + 1 - 1) = n := by rw [am_w_id (by omega) (by omega)]; omega
      refine h_204_95 hh1.1 ⟨fun _ => ⟨fun _ => ⟨fun h => absurd rfl h, fun _ => ?_⟩, fun h => absurd h (by decide)⟩, fun h => absurd h (by decide)⟩
      rw [w1, v1, am_wl_id (by omega) (by omega), am_w_id (x := j + 1) (by omega) (by omega)]
      refine ⟨hn, by omega, ?_⟩
      refine hK (1 - x) _ _ _ (by unfold nm_not; rw [hxx]) (nm_Fr_st F1 (nm_in_c (lo := 0) (hi := 400) (by simp only [List.mem_cons, true_or]) hn (by omega))) (fun q hq => ?_) ?_ ?_
      · rw [nm_gt_st, if_neg (by omega), k1 q hq]
      · rw [nm_gt_st, if_pos ⟨rfl, rfl⟩]
      · rw [nm_gt_st, if_neg (by omega), b1]
    · intro hxx M1 n' k' l5 l6 F1 b1
      exact hN (by unfold nm_not; rw [hxx]) _ _ _ _ _ F1 b1
/-- "and", "or" -/
theorem nm_mb_jmp {o : Int} {cop car : Int → Int} {i j t h1 h2 : Int} {f g : (Int → Int) → Option Int} (op z : Int) (ho : (op = 30 ∧ z = 1) ∨ (op = 29 ∧ z = 0)) (hc : cop j = op) (hc' : car j = t) (hf : nm_MB o cop car i j h1 f) (hg : nm_MB o cop car (j + 1) t h2 g) : nm_MB o cop car i t (max h1 h2) (nm_jmp z f g) := by
  obtain ⟨f0, f00, f1, f3⟩ := hf
  obtain ⟨g0, g00, g1, g3⟩ := hg
  refine ⟨by omega, by omega, ?_, ?_⟩
  · intro e he v hv
    unfold nm_jmp at hv
    cases hfe : f e with
    | none => rw [hfe] at hv; cases hv
    | some x =>
      rw [hfe] at hv
      simp only at hv
      split at hv
      · cases hv; exact f1 e he v hfe
      · exact g1 e he v hv
  · intro d M x1 x2 n e Q l5 l6 hd hh hb hx hn hht hK hN
    refine f3 d M x1 x2 n e Q l5 l6 hd (nm_mhold_sub hh (Int.le_refl _) (by omega)) hb (by omega) hn (by omega) ?_ ?_
    · intro x M1 l5 l6 hxx F1 k1 v1 b1
      have hh1 := nm_mhold_fr hh F1
      have hi0 := hh1.2.2.1
      have hj4 := hh1.2.2.2.1
      refine nm_mfetch hh1 (by omega) (by omega) b1 hx ?_
      rw [hc, hc']
      have w1 : am_w (n + 1 - 1) = n := by rw [am_w_id (by omega) (by omega)]; omega
      have w2 : am_w (n + 1 + -1) = n := by rw [am_w_id (by omega) (by omega)]; omega
      have w3 : am_w (j + 1) = j + 1 := am_w_id (by omega) (by omega)
      have go : ∀ l5 l6, x ≠ z → nm_at204 d x1 x2 n (j + 1) l5 l6 M1 Q := by
        intro l5 l6 hz
        refine g3 d M1 x1 x2 n e Q l5 l6 hd (nm_mhold_sub hh1 (by omega) (Int.le_refl _)) b1 hx hn (by omega) ?_ ?_
        · intro y M2 l5 l6 hyy F2 k2 v2 b2
          exact hK y M2 _ _ (by unfold nm_jmp; rw [hxx]; simp only; rw [if_neg hz, hyy]) (nm_Fr_trans F1 F2) (fun q hq => by rw [k2 q hq, k1 q hq]) v2 b2
        · intro hyy M2 n' k' l5 l6 F2 b2
          exact hN (by unfold nm_jmp; rw [hxx]; simp only; rw [if_neg hz, hyy]) _ _ _ _ _ (nm_Fr_trans F1 F2) b2
      have stay : ∀ l5 l6, x = z → nm_at204 d x1 x2 (n + 1) t l5 l6 M1 Q := by
        intro l5 l6 hz
        exact hK x M1 _ _ (by unfold nm_jmp; rw [hxx]; simp only; rw [if_pos hz]) F1 k1 v1 b1
      refine h_204_95 hh1.1 ⟨fun _ => ⟨fun _ => ⟨fun _ => ?_, fun h => absurd h (by omega)⟩, fun h => absurd h (by omega)⟩, fun h => absurd h (by omega)⟩
      rw [w1, w2, w3, v1]
      refine ⟨hn, by omega, fun h29 => ⟨fun c => ?_, fun c => ?_⟩, fun h29 => ⟨fun c => ?_, fun c => ?_⟩⟩
      · rw [nm_lc0] at c; exact go _ _ (by omega)
      · rw [nm_lc0] at c; exact stay _ _ (by omega)
      · rw [nm_lc0] at c; exact go _ _ (by omega)
      · rw [nm_lc0] at c; exact stay _ _ (by omega)
    · intro hxx M1 n' k' l5 l6 F1 b1
      exact hN (by unfold nm_jmp; rw [hxx]) _ _ _ _ _ F1 b1
abbrev nm_mrg : nm_Rg := [(234, 0, 400), (214, 38, 40)]
/-- what reckonAll leaves -/
theorem nm_m204 {o : Int} {cop car : Int → Int} {i j ht : Int} {f : (Int → Int) → Option Int} {d : Nat} {M : am_M} {e : Int → Int} {Q : List am_V → am_M → Prop} (hd : 3 ≤ d) (hf : nm_MB o cop car i j ht f) (hht : ht ≤ 400) (hh : nm_mhold o cop car i j e M) (hQ : ∀ M', nm_Fr nm_mrg M M' → (f e = none → am_gt M' 214 38 = 1) → (∀ v, f e = some v → am_gt M' 214 38 = 0 ∧ am_gt M' 214 39 = v) → Q [] M') : am_CL d 204 [(2, 214), (0, i), (0, j)] M Q := by
  obtain ⟨f0, f00, f1, f3⟩ := hf
  have F0 : nm_Fr nm_mg M (am_st M 214 38 0) := nm_Fr_st (nm_Fg_refl _ _) (by decide)
  have hh0 := nm_mhold_fr hh F0
  refine h_204_0 hh.1 ?_
  refine f3 d _ i j 0 e Q _ _ hd hh0 (by rw [nm_gt_st, if_pos ⟨rfl, rfl⟩]) (Int.le_refl _) (Int.le_refl _) (by omega) ?_ ?_
  · intro x M1 l5 l6 hxx F1 k1 v1 b1
    have F01 := nm_Fr_trans F0 F1
    have hL1 := (nm_mhold_fr hh0 F1).1
    refine h_204_10 hL1 ⟨fun _ => ⟨fun h => absurd h (by decide), fun _ => ?_⟩, fun h => absurd (Int.le_refl _) h⟩
    refine hQ _ (nm_Fr_st (nm_Fr_sub F01 (by decide)) (by decide)) (fun h => ?_) (fun v hv => ?_)
    · rw [hxx] at h; cases h
    · rw [hxx] at hv; cases hv
      constructor
      · rw [nm_gt_st, if_neg (by omega)]; exact b1
      · rw [nm_gt_st, if_pos ⟨rfl, rfl⟩]; exact v1
  · intro hxx M1 n' k' l5 l6 F1 b1
    have F01 := nm_Fr_trans F0 F1
    have hL1 := (nm_mhold_fr hh0 F1).1
    have fin : ∀ v, Q [] (am_st M1 214 39 v) := by
      intro v
      refine hQ _ (nm_Fr_st (nm_Fr_sub F01 (by decide)) (by decide)) (fun _ => ?_) (fun u hu => ?_)
      · rw [nm_gt_st, if_neg (by omega)]; exact b1
      · rw [hxx] at hu; cases hu
    exact h_204_10 hL1 ⟨fun _ => ⟨fun _ => fin _, fun _ => fin _⟩, fun _ => ⟨fun _ => ⟨fun _ => fin _, fun _ => fin _⟩, fun h => absurd (by rw [b1]; decide) h⟩⟩
