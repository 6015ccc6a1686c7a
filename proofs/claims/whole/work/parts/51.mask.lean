/-! THE REFERENCE: its row, laws, what is told -/
def nm_MW (M : am_M) (W : nm_W) : Prop := am_gt M 216 4 = W.1 ∧ am_gt M 216 8 = (W.2.1.length : Int) ∧ W.2.1.length ≤ 6 ∧ (∀ p : Nat, p < W.2.1.length → am_gt M 216 (9 + (p : Int)) = W.2.1.getD p 0) ∧ (∀ m, 0 ≤ m → m < 6 → am_gt M 216 (15 + m) = W.2.2.1 m) ∧ (∀ p, 0 ≤ p → p < 8 → am_gt M 216 (21 + p) = W.2.2.2 p)
/-- places of the row that no night changes -/
def nm_si (i : Int) : Prop := (0 ≤ i ∧ i ≤ 3) ∨ (5 ≤ i ∧ i ≤ 7) ∨ (29 ≤ i ∧ i < 110)
def nm_MS (M : am_M) (S : Int → Int) : Prop := ∀ i, nm_si i → am_gt M 216 i = S i
def nm_mblk (M : am_M) (a i j : Int) (f : (Int → Int) → Option Int) : Prop := ∃ (cop car : Int → Int) (ht : Int), nm_MB 0 cop car i j ht f ∧ ht ≤ 400 ∧ 0 ≤ i ∧ j ≤ 400 ∧ ∀ k, i ≤ k → k < j → am_gt M 216 (a + 98 + 2 * k) = cop k ∧ am_gt M 216 (a + 98 + 2 * k + 1) = car k
/-- the clause in the row from b on, of the law at a -/
def nm_mcl (M : am_M) (a b : Int) (c : Int × ((Int → Int) → Option Int)) : Prop := ∃ f g : (Int → Int) → Option Int, c = (am_gt M 216 b, nm_clf (am_gt M 216 b) g f) ∧ ((am_gt M 216 (b + 6) ≤ am_gt M 216 (b + 5) ∧ g = fun _ => some 1) ∨ (am_gt M 216 (b + 5) < am_gt M 216 (b + 6) ∧ nm_mblk M a (am_gt M 216 (b + 5)) (am_gt M 216 (b + 6)) g ∧ nm_b01 g)) ∧ (am_gt M 216 b ≠ 3 → nm_mblk M a (am_gt M 216 (b + 3)) (am_gt M 216 (b + 4)) f)
def nm_MT (M : am_M) (a : Int) (T : nm_T) : Prop := am_gt M 216 (a + 1) = (T.length : Int) ∧ T.length ≤ 12 ∧ ∀ k : Nat, k < T.length → nm_mcl M a (a + 2 + 8 * (k : Int)) (T.getD k (0, fun _ => none))
def nm_MX (M : am_M) (S : Int → Int) (D : Int → nm_T) : Prop := ∀ k, 0 ≤ k → k < S 2 → nm_MT M (110 + 900 * k) (D k)
def nm_MA (M : am_M) (S : Int → Int) (W : nm_W) (D : Int → nm_T) : Prop := nm_Lay M ∧ nm_MS M S ∧ nm_MW M W ∧ nm_okS S ∧ nm_MX M S D ∧ am_gt M 214 20 = 0
theorem nm_MW_kp {M M' : am_M} {W : nm_W} (h : nm_MW M W) (hk : ∀ i, am_gt M' 216 i = am_gt M 216 i) : nm_MW M' W := by
  unfold nm_MW at *; simp only [hk]; exact h
theorem nm_MS_kp {M M' : am_M} {S : Int → Int} (h : nm_MS M S) (hk : ∀ i, am_gt M' 216 i = am_gt M 216 i) : nm_MS M' S := by
  intro i hi; rw [hk]; exact h i hi
theorem nm_MT_kp {M M' : am_M} {a : Int} {T : nm_T} (h : nm_MT M a T) (ha : 110 ≤ a) (hk : ∀ i, 110 ≤ i → am_gt M' 216 i = am_gt M 216 i) : nm_MT M' a T := by
  obtain ⟨h1, h2, h3⟩ := h
  have blk : ∀ i j f, nm_mblk M a i j f → nm_mblk M' a i j f := by
    rintro i j f ⟨cop, car, ht, b1, b2, b3, b4, b5⟩
    exact ⟨cop, car, ht, b1, b2, b3, b4, fun k x y => by rw [hk _ (by omega), hk _ (by omega)]; exact b5 k x y⟩
  refine ⟨by rw [hk _ (by omega)]; exact h1, h2, fun k hl => ?_⟩
  obtain ⟨f, g, q1, q2, q3⟩ := h3 k hl
  refine ⟨f, g, ?_, ?_, ?_⟩
  · rw [hk _ (by omega)]; exact q1
  · rw [hk _ (by omega), hk _ (by omega)]
    rcases q2 with q | ⟨q, r, s⟩
    · exact .inl q
    · exact .inr ⟨q, blk _ _ _ r, s⟩
  · rw [hk _ (by omega), hk _ (by omega), hk _ (by omega)]
    exact fun h => blk _ _ _ (q3 h)
theorem nm_MX_kp {M M' : am_M} {S : Int → Int} {D : Int → nm_T} (h : nm_MX M S D) (hk : ∀ i, 110 ≤ i → am_gt M' 216 i = am_gt M 216 i) : nm_MX M' S D :=
  fun k k0 k1 => nm_MT_kp (h k k0 k1) (by omega) hk
theorem nm_MA_fr {n s : Int} {f : nm_Rg} {M M' : am_M} {S : Int → Int} {W : nm_W} {D : Int → nm_T} (h : nm_MA M S W D) (hF : nm_Fg n s f M M') (h1 : nm_lk f = true) (h2 : nm_no f 216 = true) (h3 : nm_dj f [(214, 20, 21)] = true) : nm_MA M' S W D := by
  obtain ⟨a1, a2, a3, a4, a5, a6⟩ := h
  have hk : ∀ i, am_gt M' 216 i = am_gt M 216 i := fun i => nm_gt_frn hF a1 (by decide) h2
  exact ⟨nm_Lay_fr a1 hF h1, nm_MS_kp a2 hk, nm_MW_kp a3 hk, a4, nm_MX_kp a5 (fun i _ => hk i), by rw [nm_gt_frd (g := [(214, 20, 21)]) hF a1 (by decide) h3 (by decide)]; exact a6⟩
abbrev nm_mig : nm_Rg := [(234, 0, 400), (214, 38, 41)]
abbrev nm_tg : nm_Rg := [(234, 0, 400), (214, 34, 35), (214, 38, 41), (232, 0, 13)]
theorem nm_MA_tg {M M' : am_M} {S : Int → Int} {W : nm_W} {D : Int → nm_T} (h : nm_MA M S W D) (hF : nm_Fr nm_tg M M') : nm_MA M' S W D := nm_MA_fr h hF (by decide +kernel) (by decide) (by decide)
/-- isSo -/
theorem nm_m205 {d : Nat} {b : Int} {c : Int × ((Int → Int) → Option Int)} {e : Int → Int} {M : am_M} {Q : List am_V → am_M → Prop} (hd : 4 ≤ d) (hL : nm_Lay M) (h20 : am_gt M 214 20 = 0) (ha : 110 ≤ am_gt M 214 34 ∧ am_gt M 214 34 ≤ 4610) (hb : 0 ≤ b) (hb' : b < 5500) (hc : nm_mcl M (am_gt M 214 34) b c) (he : ∀ w, 0 ≤ w → w < 8 → am_gt M 232 (w + 1) = e w) (hbe : nm_be 0 e) (hQ : ∀ M' r, nm_Fr nm_mig M M' → (c.2 e = none → r = 0) → (∀ v, c.2 e = some v → r = 1 ∧ (c.1 ≠ 3 → am_gt M' 214 40 = v)) → Q [(0, r)] M') : am_CL d 205 [(2, 214), (0, b)] M Q := by
  obtain ⟨f, g, q1, q2, q3⟩ := hc
  have w5 : am_w (b + 5) = b + 5 := am_w_id (by omega) (by omega)
  have w6 : am_w (b + 6) = b + 6 := am_w_id (by omega) (by omega)
  have w3 : am_w (b + 3) = b + 3 := am_w_id (by omega) (by omega)
  have w4 : am_w (b + 4) = b + 4 := am_w_id (by omega) (by omega)
  have hc1 : c.1 = am_gt M 216 b := by rw [q1]
  have hc2 : c.2 e = nm_clf (am_gt M 216 b) g f e := by rw [q1]
  have hold : ∀ (M2 : am_M) cop car i j, nm_Fr nm_mig M M2 → 0 ≤ i → j ≤ 400 → (∀ k, i ≤ k → k < j → am_gt M 216 (am_gt M 214 34 + 98 + 2 * k) = cop k ∧ am_gt M 216 (am_gt M 214 34 + 98 + 2 * k + 1) = car k) → nm_mhold 0 cop car i j e M2 := by
    intro M2 cop car i j F2 hi hj hcd
    have k1 : am_gt M2 214 34 = am_gt M 214 34 := nm_gt_frd (g := [(214, 34, 35)]) F2 hL (by decide) (by decide) (by decide)
    have k2 : am_gt M2 214 20 = am_gt M 214 20 := nm_gt_frd (g := [(214, 20, 21)]) F2 hL (by decide) (by decide) (by decide)
    have k3 : ∀ i, am_gt M2 216 i = am_gt M 216 i := fun i => nm_gt_frn F2 hL (by decide) (by decide)
    have k4 : ∀ i, am_gt M2 232 i = am_gt M 232 i := fun i => nm_gt_frn F2 hL (by decide) (by decide)
    refine ⟨nm_Lay_fr hL F2 (by decide +kernel), k2.trans h20, hi, hj, hbe, .inl ⟨rfl, by omega, by omega, ?_⟩, .inl ⟨rfl, fun w x y => by rw [k4]; exact he w x y⟩⟩
    rw [k1]
    intro k x y
    rw [k3, k3]
    exact hcd k x y
  have sum : ∀ (M2 : am_M), nm_Fr nm_mig M M2 → g e = some 1 → am_gt M 216 b ≠ 3 → am_CL (d - 1) 204 [(2, 214), (0, am_gt M2 216 (b + 3)), (0, am_gt M2 216 (b + 4))] M2 (fun r M' => am_WP d am_c205 89 [(2, 214), (0, b)] (r ++ []) M' Q) := by
    intro M2 F2 hg h3
    have k3 : ∀ i, am_gt M2 216 i = am_gt M 216 i := fun i => nm_gt_frn F2 hL (by decide) (by decide)
    obtain ⟨cop, car, ht, b1, b2, b3, b4, b5⟩ := q3 h3
    rw [k3, k3]
    refine nm_m204 (by omega) b1 b2 (hold M2 cop car _ _ F2 b3 b4 b5) (fun M3 F3 z1 z2 => ?_)
    have F23 := nm_Fr_trans F2 (nm_Fr_sub F3 (by decide))
    have hL3 := nm_Lay_fr hL F23 (by decide +kernel)
    have F4 := nm_Fr_st (v := am_gt M3 214 39) F23 (show nm_in nm_mig 214 40 = true by decide)
    refine h_205_89 hL3 ⟨fun hz => ?_, fun hz => ?_⟩
    · refine hQ _ 0 F4 (fun _ => rfl) (fun v hv => ?_)
      rw [hc2] at hv
      unfold nm_clf at hv
      rw [hg, if_pos rfl, if_neg h3] at hv
      exact absurd (z2 v hv).1 hz
    · refine hQ _ 1 F4 (fun hn => ?_) (fun v hv => ⟨rfl, fun _ => ?_⟩)
      · rw [hc2] at hn
        unfold nm_clf at hn
        rw [hg, if_pos rfl, if_neg h3] at hn
        exact absurd (by rw [z1 hn]; decide) hz
      · rw [hc2] at hv
        unfold nm_clf at hv
        rw [hg, if_pos rfl, if_neg h3] at hv
        rw [nm_gt_st, if_pos ⟨rfl, rfl⟩]
        exact (z2 v hv).2
  have bars : ∀ (M2 : am_M), nm_Fr nm_mig M M2 → g e = some 1 → am_gt M 216 b = 3 → Q [(0, 1)] M2 := by
    intro M2 F2 hg h3
    refine hQ M2 1 F2 (fun hn => ?_) (fun v hv => ⟨rfl, fun h => absurd (hc1.trans h3) h⟩)
    rw [hc2] at hn
    unfold nm_clf at hn
    rw [hg, if_pos rfl, if_pos h3] at hn
    cases hn
  refine h_205_0 hL ?_
  rw [w5, w6, w3, w4]
  refine ⟨by omega, by omega, by omega, by omega, fun hle => ⟨hb, by omega, fun h3 => ?_, fun h3 => ⟨by omega, by omega, by omega, by omega, by omega, ?_⟩⟩, fun hlt => ⟨by omega, ?_⟩⟩
  · rcases q2 with ⟨-, hg⟩ | ⟨q, -⟩
    · exact bars M (nm_Fg_refl _ _) (by rw [hg]) h3
    · omega
  · rcases q2 with ⟨-, hg⟩ | ⟨q, -⟩
    · exact sum M (nm_Fg_refl _ _) (by rw [hg]) h3
    · omega
  · rcases q2 with ⟨q, -⟩ | ⟨-, ⟨cop, car, ht, b1, b2, b3, b4, b5⟩, h01⟩
    · omega
    refine nm_m204 (by omega) b1 b2 (hold M cop car _ _ (nm_Fg_refl _ _) b3 b4 b5) (fun M2 F2 z1 z2 => ?_)
    have F2' : nm_Fr nm_mig M M2 := nm_Fr_sub F2 (by decide)
    have hL2 := nm_Lay_fr hL F2' (by decide +kernel)
    have k3 : ∀ i, am_gt M2 216 i = am_gt M 216 i := fun i => nm_gt_frn F2' hL (by decide) (by decide)
    have no : g e ≠ some 1 → Q [(0, 0)] M2 := by
      intro hg
      refine hQ M2 0 F2' (fun _ => rfl) (fun v hv => ?_)
      rw [hc2] at hv
      unfold nm_clf at hv
      rw [if_neg hg] at hv
      cases hv
    refine h_205_41 hL2 ⟨fun hz => ?_, fun hz => ⟨fun c0 => ?_, fun c0 => ?_⟩⟩
    · refine no (fun hg => ?_)
      exact hz (z2 1 hg).1
    · rw [nm_lc0] at c0
      have hg : g e = some 1 := by
        cases hge : g e with
        | none => exact absurd (by rw [z1 hge]; decide) hz
        | some v =>
          have := (z2 v hge).2
          rcases h01 e v hge with rfl | rfl
          · exact absurd this c0
          · rfl
      rw [w3, w4, k3]
      exact ⟨hb, by omega, fun h3 => bars M2 F2' hg h3, fun h3 => ⟨by omega, by omega, by omega, by omega, by omega, sum M2 F2' hg h3⟩⟩
    · rw [nm_lc0] at c0
      refine no (fun hg => ?_)
      have := (z2 1 hg).2
      omega
/-- what tells answers -/
def nm_tl (T : nm_T) (k : Int) (e : Int → Int) (w : Int) : Int := match nm_told T k e with
  | none => w
  | some v => if k = 3 then 1 else v
theorem nm_tl_succ {T : nm_T} {k : Int} {e : Int → Int} {w : Int} {n : Nat} (hn : n < T.length) : nm_tl (T.take (n + 1)) k e w = if (T.getD n (0, fun _ => none)).1 = k then (match (T.getD n (0, fun _ => none)).2 e with | none => nm_tl (T.take n) k e w | some v => if k = 3 then 1 else v) else nm_tl (T.take n) k e w := by
  have h1 : T.take (n + 1) = T.take n ++ [T.getD n (0, fun _ => none)] := by
    rw [List.getD_eq_getElem?_getD, List.getElem?_eq_getElem hn, Option.getD_some, List.take_append_getElem]
  unfold nm_tl
  rw [h1, nm_told_app]
  have h2 : nm_told [T.getD n (0, fun _ => none)] k e = if (T.getD n (0, fun _ => none)).1 = k then (T.getD n (0, fun _ => none)).2 e else none := rfl
  rw [h2]
  by_cases hk : (T.getD n (0, fun _ => none)).1 = k
  · rw [if_pos hk, if_pos hk]
    cases hc : (T.getD n (0, fun _ => none)).2 e with
    | none => rfl
    | some v => rfl
  · rw [if_neg hk, if_neg hk]
theorem nm_m206 {d : Nat} {k m p h q w n : Int} {S : Int → Int} {W : nm_W} {D : Int → nm_T} {M : am_M} {Q : List am_V → am_M → Prop} (hd : 5 ≤ d) (hA : nm_MA M S W D) (hoW : nm_okW n W) (hm : -1 ≤ m) (hm6 : m < 6) (hp : -1000 ≤ p ∧ p ≤ 1000) (hh : -1000 ≤ h ∧ h ≤ 1000) (hq : -1000 ≤ q ∧ q ≤ 1000) (hQ : ∀ M', nm_Fr nm_tg M M' → Q [(1, nm_tl (nm_lwf S D) k (nm_env S W m p h q) w)] M') : am_CL d 206 [(2, 214), (0, k), (0, m), (0, p), (0, h), (0, q), (1, w)] M Q := by
  have hA0 := hA
  obtain ⟨hL, hS, hW, hO, hX, h20⟩ := hA
  have s3 : am_gt M 216 3 = S 3 := hS 3 (.inl ⟨by decide, by decide⟩)
  have o3 := hO.2.2.2.1
  have o2 := hO.2.2.1
  have hbd := nm_env_bd hO hoW hm hm6 hp hh hq
  refine h_206_0 hL ⟨fun hf => ?_, fun hf => ?_⟩
  rotate_left
  · have : nm_lwf S D = [] := by show nm_lw S D (S 3) = _; unfold nm_lw; rw [if_neg (by omega)]
    have hr := hQ M (nm_Fg_refl _ _)
    rw [this] at hr; exact hr
  have hT : nm_lwf S D = D (S 3) := by show nm_lw S D (S 3) = _; unfold nm_lw; rw [if_pos (by omega)]
  rw [s3, am_w_id (x := 900 * S 3) (by omega) (by omega), am_w_id (x := 110 + 900 * S 3) (by omega) (by omega)]
  have lay : ∀ {M'}, nm_Fr nm_tg M M' → nm_Lay M' := fun F => nm_Lay_fr hL F (by decide +kernel)
  have z : ((232, 0, 13) : Int × Int × Int) ∈ nm_tg := by simp only [List.mem_cons, true_or, or_true]
  have F0 : nm_Fr nm_tg M (am_st M 214 34 (110 + 900 * S 3)) := nm_Fr_st (nm_Fg_refl _ _) (by decide)
  have F1 := nm_Fst (v := m) (i := 1) F0 z (by decide) (by decide)
  have F2 := nm_Fst (v := p) (i := 2) F1 z (by decide) (by decide)
  have F3 := nm_Fst (v := h) (i := 3) F2 z (by decide) (by decide)
  have F4 := nm_Fst (v := q) (i := 4) F3 z (by decide) (by decide)
  refine h_206_30 (lay F0) (h_206_38 (lay F1) (h_206_46 (lay F2) (h_206_55 (lay F3) ?_)))
  -- the loop
  have key : ∀ c, c ≤ (D (S 3)).length → ∀ (M1 : am_M) (l11 : am_V), nm_Fr nm_tg M M1 → am_gt M1 214 34 = 110 + 900 * S 3 → (∀ w, 0 ≤ w → w < 8 → am_gt M1 232 (w + 1) = nm_env S W m p h q w) → am_WP d am_c206 155 [(2, 214), (0, k), (0, m), (0, p), (0, h), (0, q), (1, w), (9, 0), (1, nm_tl ((D (S 3)).take c) k (nm_env S W m p h q) w), (9, 0), (0, (c : Int)), l11] [] M1 Q := by
    refine nm_dn ?_
    intro c hcl ih M1 l11 FM hlaw hset
    obtain ⟨hL1, hS1, hW1, -, hX1, h201⟩ := nm_MA_tg hA0 FM
    obtain ⟨t1, t2, t3⟩ := hX1 (S 3) (by omega) (by omega)
    have w1 : am_w (110 + 900 * S 3 + 1) = 110 + 900 * S 3 + 1 := am_w_id (by omega) (by omega)
    have w2 : am_w (am_w (110 + 900 * S 3 + 2) + am_w (8 * (c : Int))) = 110 + 900 * S 3 + 2 + 8 * (c : Int) := by rw [am_w_id (x := 110 + 900 * S 3 + 2) (by omega) (by omega), am_w_id (x := 8 * (c : Int)) (by omega) (by omega), am_w_id (by omega) (by omega)]
    refine h_206_155 hL1 ?_
    rw [hlaw, w1, w2, t1]
    refine ⟨by omega, by omega, fun hc => ?_, fun hc => ⟨by omega, by omega, fun hk => ?_, fun hk => ⟨by omega, ?_⟩⟩⟩
    · have hce : c = (D (S 3)).length := by omega
      rw [hce, List.take_length]
      have := hQ M1 FM
      rw [hT] at this; exact this
    · have hlt : c < (D (S 3)).length := by omega
      obtain ⟨f, g, q1, -⟩ := t3 c hlt
      have hs := nm_tl_succ (k := k) (e := nm_env S W m p h q) (w := w) hlt
      rw [if_neg (by rw [q1]; exact hk)] at hs
      have := ih hlt M1 (0, 110 + 900 * S 3 + 2 + 8 * (c : Int)) FM hlaw hset
      rw [hs] at this
      rw [nm_wk (by omega)]; exact this
    · have hlt : c < (D (S 3)).length := by omega
      have hcl' := t3 c hlt
      have hs := nm_tl_succ (k := k) (e := nm_env S W m p h q) (w := w) hlt
      have hk1 : ((D (S 3)).getD c (0, fun _ => none)).1 = k := by
        obtain ⟨f, g, q1, -⟩ := hcl'
        rw [q1]; show am_gt M1 216 _ = k; omega
      rw [if_pos hk1] at hs
      rw [← hlaw] at hcl'
      refine nm_m205 (e := nm_env S W m p h q) (c := (D (S 3)).getD c (0, fun _ => none)) (by omega) hL1 h201 ⟨by omega, by omega⟩ (by omega) (by omega) (by rw [hlaw] at hcl' ⊢; exact hcl') hset (fun i _ _ => hbd i) (fun M2 r G z1 z2 => ?_)
      have G' : nm_Fr nm_tg M1 M2 := nm_Fr_sub G (by decide)
      have FM2 := nm_Fr_trans FM G'
      have hL2 := lay FM2
      have hlaw2 : am_gt M2 214 34 = 110 + 900 * S 3 := by rw [nm_gt_frd (g := [(214, 34, 35)]) G hL1 (by decide) (by decide) (by decide)]; exact hlaw
      have hset2 : ∀ w, 0 ≤ w → w < 8 → am_gt M2 232 (w + 1) = nm_env S W m p h q w := fun w x y => by rw [nm_gt_frn G hL1 (by decide) (by decide)]; exact hset w x y
      refine h_206_202 hL2 ⟨fun hr => ?_, fun hr => ?_⟩
      · cases hce : ((D (S 3)).getD c (0, fun _ => none)).2 (nm_env S W m p h q) with
        | some v => have := (z2 v hce).1; omega
        | none =>
          rw [hce] at hs
          have := ih hlt M2 (0, 110 + 900 * S 3 + 2 + 8 * (c : Int)) FM2 hlaw2 hset2
          rw [hs] at this
          rw [nm_wk (by omega)]; exact this
      · cases hce : ((D (S 3)).getD c (0, fun _ => none)).2 (nm_env S W m p h q) with
        | none => have := z1 hce; omega
        | some v =>
          rw [hce] at hs
          have := ih hlt M2 (0, 110 + 900 * S 3 + 2 + 8 * (c : Int)) FM2 hlaw2 hset2
          rw [hs] at this
          rw [nm_wk (by omega)]
          refine ⟨fun h3 => ?_, fun h3 => ?_⟩
          · have e2 := (z2 v hce).2 (by rw [hk1]; exact h3)
            simp only [if_neg h3] at this
            rw [e2]; exact this
          · simp only [if_pos (show k = 3 by omega)] at this
            exact this
  have start : ∀ M1, nm_Fr nm_tg M M1 → am_gt M1 214 34 = 110 + 900 * S 3 → (∀ i, 1 ≤ i → i < 7 → am_gt M1 232 i = nm_env S W m p h q (i - 1)) → am_WP d am_c206 119 [(2, 214), (0, k), (0, m), (0, p), (0, h), (0, q), (1, w), (9, 0), (9, 0), (9, 0), (9, 0), (9, 0)] [] M1 Q := by
    intro M1 FM hlaw hset
    obtain ⟨hL1, hS1, hW1, -, hX1, h201⟩ := nm_MA_tg hA0 FM
    have F7 := nm_Fst (v := am_gt M1 216 4) (i := 7) FM z (by decide) (by decide)
    have F8 := nm_Fst (v := am_gt M1 216 6) (i := 8) F7 z (by decide) (by decide)
    refine h_206_119 hL1 ?_
    have := key 0 (Nat.zero_le _) _ (9, 0) F8 (by rw [nm_gt_st, if_neg (by omega), nm_gt_st, if_neg (by omega)]; exact hlaw) (fun i x y => ?_)
    · rw [show nm_tl ((D (S 3)).take 0) k (nm_env S W m p h q) w = w from by rw [List.take_zero]; rfl] at this
      exact this
    · by_cases h6 : i < 6
      · rw [nm_gt_st, if_neg (by omega), nm_gt_st, if_neg (by omega), hset (i + 1) (by omega) (by omega), show i + 1 - 1 = i by omega]
      · have : i = 6 ∨ i = 7 := by omega
        rcases this with rfl | rfl
        · rw [nm_gt_st, if_neg (by omega), nm_gt_st, if_pos ⟨rfl, by decide⟩, hW1.1]; rfl
        · rw [nm_gt_st, if_pos ⟨rfl, by decide⟩, hS1 6 (.inr (.inl ⟨by decide, by decide⟩))]; rfl
  have k16 : ∀ {M1}, nm_Fr nm_tg M M1 → ∀ i, am_gt M1 216 i = am_gt M 216 i := fun F i => nm_gt_frn F hL (by decide) (by decide)
  by_cases hmn : m = -1
  · have F5 := nm_Fst (v := -1) (i := 5) F4 z (by decide) (by decide)
    have F6 := nm_Fst (v := -1) (i := 6) F5 z (by decide) (by decide)
    refine h_206_64 (lay F4) ⟨fun h => absurd hmn h, fun _ => ?_⟩
    refine h_206_91 (lay F5) ⟨fun h => absurd hmn h, fun _ => ?_⟩
    refine start _ F6 ?_ (fun i x y => ?_)
    · simp only [nm_gt_st, Int.reduceEq, false_and, if_false, and_self, if_true]
    · have hmn' : m < 0 := by omega
      have : i = 1 ∨ i = 2 ∨ i = 3 ∨ i = 4 ∨ i = 5 ∨ i = 6 := by omega
      rcases this with rfl | rfl | rfl | rfl | rfl | rfl <;> simp only [nm_gt_st, nm_env, Int.reduceEq, Int.reduceSub, and_true, and_false, if_true, if_false, hmn']
  · have hm0 : 0 ≤ m := by omega
    have b5 : am_gt M 216 (65 + m) = S (65 + m) := hS _ (.inr (.inr ⟨by omega, by omega⟩))
    have b6 : am_gt M 216 (15 + m) = W.2.2.1 m := hW.2.2.2.2.1 m hm0 hm6
    have F5 := nm_Fst (v := S (65 + m)) (i := 5) F4 z (by decide) (by decide)
    have F6 := nm_Fst (v := W.2.2.1 m) (i := 6) F5 z (by decide) (by decide)
    have w65 : am_w (65 + m) = 65 + m := am_w_id (by omega) (by omega)
    have w15 : am_w (15 + m) = 15 + m := am_w_id (by omega) (by omega)
    refine h_206_64 (lay F4) ⟨fun _ => ?_, fun h => absurd hmn h⟩
    rw [w65, k16 F4, b5]
    refine ⟨by omega, by omega, h_206_91 (lay F5) ⟨fun _ => ?_, fun h => absurd hmn h⟩⟩
    rw [w15, k16 F5, b6]
    refine ⟨by omega, by omega, start _ F6 ?_ (fun i x y => ?_)⟩
    · simp only [nm_gt_st, Int.reduceEq, false_and, if_false, and_self, if_true]
    · have hmn' : ¬ m < 0 := by omega
      have : i = 1 ∨ i = 2 ∨ i = 3 ∨ i = 4 ∨ i = 5 ∨ i = 6 := by omega
      rcases this with rfl | rfl | rfl | rfl | rfl | rfl <;> simp only [nm_gt_st, nm_env, Int.reduceEq, Int.reduceSub, and_true, and_false, if_true, if_false, hmn']
/-- what is made, worn, paid, barred -/
theorem nm_m207 {d : Nat} {m p h q n : Int} {S : Int → Int} {W : nm_W} {D : Int → nm_T} {M : am_M} {Q : List am_V → am_M → Prop} (hd : 6 ≤ d) (hA : nm_MA M S W D) (hoW : nm_okW n W) (hm : 0 ≤ m) (hm6 : m < 6) (hp : -1000 ≤ p ∧ p ≤ 1000) (hh : -1000 ≤ h ∧ h ≤ 1000) (hq : 0 ≤ q ∧ q ≤ 7) (hQ : ∀ M', nm_Fr nm_tg M M' → Q [(0, nm_made S W (nm_lwf S D) m p h q)] M') : am_CL d 207 [(2, 214), (0, m), (0, p), (0, h), (0, q)] M Q := by
  have hA0 := hA
  obtain ⟨hL, hS, hW, hO, hX, h20⟩ := hA
  have ob := hO.2.2.2.2.2.2.2.2.2.1 m hm hm6
  refine h_207_0 hL ?_
  rw [am_w_id (x := 65 + m) (by omega) (by omega), hS (65 + m) (.inr (.inr ⟨by omega, by omega⟩)), am_w_id (x := q + S (65 + m)) (by omega) (by omega), Int.tmod_eq_emod_of_nonneg (by omega)]
  refine ⟨by omega, by omega, by omega, nm_m206 (by omega) hA0 hoW (by omega) hm6 hp hh (by omega) (fun M1 F1 => ?_)⟩
  have hL1 := (nm_MA_tg hA0 F1).1
  refine h_207_26 hL1 ⟨by omega, nm_m144 hL1 (by decide) (by decide) (h_207_32 hL1 ?_)⟩
  have := hQ M1 F1
  unfold nm_made at this
  unfold nm_tl
  cases hv : nm_told (nm_lwf S D) 0 (nm_env S W m p h q) with
  | none =>
    rw [hv] at this
    rw [show nm_cut ((q + S (65 + m)) % 8) 0 7 = (q + S (65 + m)) % 8 from by unfold nm_cut; rw [if_neg (by omega), if_neg (by omega)]]
    exact this
  | some v => rw [hv] at this; exact this
theorem nm_m208 {d : Nat} {m p h n : Int} {S : Int → Int} {W : nm_W} {D : Int → nm_T} {M : am_M} {Q : List am_V → am_M → Prop} (hd : 7 ≤ d) (hA : nm_MA M S W D) (hoW : nm_okW n W) (hm : 0 ≤ m) (hm' : m < S 0) (hp : 0 ≤ p ∧ p ≤ 1000) (hh : 0 ≤ h ∧ h ≤ 1000) (hQ : ∀ M', nm_Fr nm_tg M M' → Q [(0, if p < h then nm_mk S W (nm_lwf S D) m p h else -1)] M') : am_CL d 208 [(2, 214), (0, m), (0, p), (0, h)] M Q := by
  have hA0 := hA
  obtain ⟨hL, hS, hW, hO, hX, h20⟩ := hA
  have o0 := hO.1
  have l := hO.2.2.2.2.2.2.2.1 m hm hm'
  have sl : am_gt M 216 (29 + m) = S (29 + m) := hS _ (.inr (.inr ⟨by omega, by omega⟩))
  refine h_208_0 hL ⟨fun hlt => ?_, fun hlt => ?_⟩
  · have hx := nm_seen_at hO hm hm' hlt
    have hin := nm_seen_in hO hm hm' hlt
    rw [am_w_id (x := 29 + m) (by omega) (by omega), sl, am_w_id (x := h - p) (by omega) (by omega), am_w_id (x := h - p - 1) (by omega) (by omega), Int.tmod_eq_emod_of_nonneg (by omega), am_w_id (x := 5 * m) (by omega) (by omega), am_w_id (x := 35 + 5 * m) (by omega) (by omega), am_w_id (x := 35 + 5 * m + S (29 + m)) (by omega) (by omega), am_w_id (x := 35 + 5 * m + S (29 + m) - 1) (by omega) (by omega), am_w_id (x := 35 + 5 * m + S (29 + m) - 1 - (h - p - 1) % S (29 + m)) (by omega) (by omega), hS (35 + 5 * m + S (29 + m) - 1 - (h - p - 1) % S (29 + m)) (.inr (.inr ⟨by omega, by omega⟩))]
    refine ⟨by omega, by omega, by omega, by omega, by omega, by omega, ?_⟩
    refine nm_m207 (by omega) hA0 hoW hm (by omega) (by omega) (by omega) hin (fun M1 F1 => ?_)
    refine h_208_57 (nm_MA_tg hA0 F1).1 ?_
    have := hQ M1 F1
    rw [if_pos hlt] at this
    exact this
  · have := hQ M (nm_Fg_refl _ _)
    rw [if_neg hlt] at this
    exact this
theorem nm_ix_last {l : List Int} (hl : l.Nodup) {m : Int} : nm_ix l m = if m ∈ l then nm_ix l m else -1 := by
  split
  · rfl
  · unfold nm_ix; rw [if_neg (by assumption)]
theorem nm_m157 {d : Nat} {m : Int} {W : nm_W} {M : am_M} {Q : List am_V → am_M → Prop} (hL : nm_Lay M) (hW : nm_MW M W) (hnd : W.2.1.Nodup) (hQ : Q [(0, nm_ix W.2.1 m)] M) : am_CL d 157 [(2, 214), (0, m)] M Q := by
  obtain ⟨h1, h2, h3, h4, h5, h6⟩ := hW
  refine h_157_0 hL ?_
  have key : ∀ k, k ≤ W.2.1.length → am_WP d am_c157 4 [(2, 214), (0, m), (0, nm_ix (W.2.1.take k) m), (0, (k : Int))] [] M Q := by
    refine nm_dn ?_
    intro k hk ih
    refine h_157_4 hL ⟨fun h => ?_, fun h => ?_⟩
    · rw [List.take_of_length_le (by omega)]; exact hQ
    · have hkl : k < W.2.1.length := by omega
      have hc := ih hkl
      have hnt := nm_nodup_take hnd hkl
      rw [am_w_id (x := 9 + (k : Int)) (by omega) (by omega), h4 k hkl, nm_wk (by omega)]
      refine ⟨by omega, by omega, fun hne => ?_, fun he => ?_⟩
      · have : nm_ix (W.2.1.take (k + 1)) m = nm_ix (W.2.1.take k) m := by
          rw [nm_take1 hkl]
          unfold nm_ix
          by_cases hm : m ∈ W.2.1.take k
          · rw [if_pos hm, if_pos (List.mem_append.mpr (.inl hm)), List.idxOf_append, if_pos hm]
          · rw [if_neg hm, if_neg (fun h => (List.mem_append.mp h).elim hm (fun h => hne (List.mem_singleton.mp h).symm))]
        rw [this] at hc; exact hc
      · have he' : W.2.1.getD k 0 = m := by omega
        have : nm_ix (W.2.1.take (k + 1)) m = (k : Int) := by
          rw [nm_take1 hkl, he']
          rw [he'] at hnt
          unfold nm_ix
          rw [if_pos (List.mem_append.mpr (.inr (List.mem_singleton.mpr rfl))), List.idxOf_append, if_neg hnt, List.length_take]
          have : List.idxOf m [m] = 0 := by simp
          rw [this]; omega
        rw [this] at hc; exact hc
  have := key 0 (Nat.zero_le _)
  rw [List.take_zero] at this
  exact this
theorem nm_m209 {d : Nat} {m n : Int} {S : Int → Int} {W : nm_W} {D : Int → nm_T} {M : am_M} {Q : List am_V → am_M → Prop} (hd : 6 ≤ d) (hA : nm_MA M S W D) (hoW : nm_okW n W) (hm : 0 ≤ m) (hm6 : m < 6) (hQ : ∀ M', nm_Fr nm_tg M M' → Q [(0, nm_wear S W (nm_lwf S D) m (nm_ix W.2.1 m))] M') : am_CL d 209 [(2, 214), (0, m)] M Q := by
  have hA0 := hA
  obtain ⟨hL, hS, hW, hO, hX, h20⟩ := hA
  refine h_209_0 hL ⟨by omega, nm_m157 hL hW hoW.2.2.1 ?_⟩
  have hi : -1 ≤ nm_ix W.2.1 m ∧ nm_ix W.2.1 m ≤ 6 := by
    have := hW.2.2.1
    rcases nm_ix_cases W.2.1 m with ⟨e, -⟩ | ⟨k, hk, -, e⟩ <;> rw [e] <;> omega
  refine h_209_8 hL ⟨by omega, nm_m206 (by omega) hA0 hoW (by omega) hm6 (by omega) (by omega) (by omega) (fun M1 F1 => ?_)⟩
  have hL1 := (nm_MA_tg hA0 F1).1
  refine h_209_14 hL1 ⟨by omega, nm_m144 hL1 (by decide) (by decide) (h_209_20 hL1 ?_)⟩
  have := hQ M1 F1
  unfold nm_wear at this
  unfold nm_tl
  cases hv : nm_told (nm_lwf S D) 1 (nm_env S W m (nm_ix W.2.1 m) (-1) (-1)) with
  | none => rw [hv] at this; exact this
  | some v => rw [hv] at this; exact this
theorem nm_m210 {d : Nat} {q n : Int} {S : Int → Int} {W : nm_W} {D : Int → nm_T} {M : am_M} {Q : List am_V → am_M → Prop} (hd : 6 ≤ d) (hA : nm_MA M S W D) (hoW : nm_okW n W) (hq : 0 ≤ q ∧ q ≤ 7) (hQ : ∀ M', nm_Fr nm_tg M M' → Q [(0, nm_pay S W (nm_lwf S D) q)] M') : am_CL d 210 [(2, 214), (0, q)] M Q := by
  have hL := hA.1
  refine h_210_0 hL ⟨by omega, nm_m206 (by omega) hA hoW (by decide) (by decide) (by omega) (by omega) (by omega) (fun M1 F1 => ?_)⟩
  have hL1 := (nm_MA_tg hA F1).1
  refine h_210_10 hL1 ⟨by omega, nm_m144 hL1 (by decide) (by decide) (h_210_16 hL1 ?_)⟩
  have := hQ M1 F1
  unfold nm_pay at this
  unfold nm_tl
  cases hv : nm_told (nm_lwf S D) 2 (nm_env S W (-1) (-1) (-1) q) with
  | none => rw [hv] at this; exact this
  | some v => rw [hv] at this; exact this
theorem nm_m211 {d : Nat} {m p n : Int} {S : Int → Int} {W : nm_W} {D : Int → nm_T} {M : am_M} {Q : List am_V → am_M → Prop} (hd : 6 ≤ d) (hA : nm_MA M S W D) (hoW : nm_okW n W) (hm : 0 ≤ m) (hm6 : m < 6) (hp : -1000 ≤ p ∧ p ≤ 1000) (hQ : ∀ M', nm_Fr nm_tg M M' → Q [(0, if nm_bar S W (nm_lwf S D) m p then 1 else 0)] M') : am_CL d 211 [(2, 214), (0, m), (0, p)] M Q := by
  have hL := hA.1
  refine h_211_0 hL ⟨by omega, nm_m206 (by omega) hA hoW (by omega) hm6 hp (by omega) (by omega) (fun M1 F1 => ?_)⟩
  have hL1 := (nm_MA_tg hA F1).1
  have := hQ M1 F1
  unfold nm_bar at this
  unfold nm_tl
  refine h_211_10 hL1 ⟨fun c => ?_, fun c => ?_⟩
  · rw [nm_lc0] at c
    cases hv : nm_told (nm_lwf S D) 3 (nm_env S W m p (-1) (-1)) with
    | none => rw [hv] at this; exact this
    | some v => rw [hv] at c; exact absurd rfl c
  · rw [nm_lc0] at c
    cases hv : nm_told (nm_lwf S D) 3 (nm_env S W m p (-1) (-1)) with
    | none => rw [hv] at c; simp only at c; omega
    | some v => rw [hv] at this; exact this
