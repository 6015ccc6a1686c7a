/-! TEXTS, PURE; THE CLASS READS THEM -/
def rd_txl (T : tk_T) (o : Int) : Nat → List rd_C → Int → Int → Except Int (List rd_C)
  | 0, _, s, _ => .error (tk_b T s)
  | m + 1, cs, s, n => match rd_cls T o s n (cs.length : Int) with
    | .error p => .error p
    | .ok (c, s1, n1) => if tk_x T s1 = rd_tx 38 then rd_txl T o m (cs ++ [c]) (tk_e T s1) n1 else if tk_k T s1 = 0 then .ok (cs ++ [c]) else .error (tk_b T s1)
def rd_text (T : tk_T) (o : Int) : Except Int (List rd_C) := rd_txl T o 13 [] 0 0
/-- what is sure of a clause -/
def rd_cok (c : rd_C) : Prop := (0 ≤ c.1 ∧ c.1 ≤ 3) ∧ (1 ≤ c.2.2.2.1 ∧ c.2.2.2.1 ≤ 20) ∧ ∀ g, c.2.2.2.2 = some g → nm_b01 g
theorem rd_cls_gd {T : tk_T} {o s n sz s4 n4 : Int} {c : rd_C} (h0 : 0 ≤ s) (h1 : s ≤ T.2) (n0 : 0 ≤ n) (n5 : n ≤ 50) (h : rd_cls T o s n sz = .ok (c, s4, n4)) : s < s4 ∧ s4 ≤ T.2 ∧ 0 ≤ n4 ∧ n4 ≤ 50 ∧ rd_cok c ∧ sz < 12 := by
  unfold rd_cls at h
  split at h
  · cases h
  rename_i hnc
  have he := tk_se h1
  obtain ⟨kx, k0, k3⟩ : tk_x T s ≠ [] ∧ 0 ≤ rd_kd o (tk_x T s) ∧ rd_kd o (tk_x T s) ≤ 3 := by
    rcases rd_kd_n o (tk_x T s) with e | e
    · exact absurd (.inl e) hnc
    · exact e
  have adv := tk_adv h1 kx
  cases hf : rd_fst T o (rd_kd o (tk_x T s)) (tk_e T s) n with
  | error p => rw [hf] at h; cases h
  | ok r =>
    obtain ⟨f, s1, n1⟩ := r
    rw [hf] at h
    have a : tk_e T s ≤ s1 ∧ s1 ≤ T.2 ∧ 0 ≤ n1 ∧ n1 ≤ 50 := by
      unfold rd_fst at hf
      split at hf
      · cases hf; exact ⟨Int.le_refl _, he.2, n0, n5⟩
      · have := rd_sum_gd T o 8 _ _ _ _ _ (by omega) he.2 n0 n5 hf; omega
    simp only at h
    unfold rd_c2 at h
    cases hs : rd_snd T o (rd_kd o (tk_x T s)) s1 n1 with
    | error p => rw [hs] at h; cases h
    | ok r =>
      obtain ⟨g, s2, n2⟩ := r
      rw [hs] at h
      have b : s1 ≤ s2 ∧ s2 ≤ T.2 ∧ 0 ≤ n2 ∧ n2 ≤ 50 := by
        unfold rd_snd at hs
        split at hs
        · split at hs
          · have he2 := tk_se a.2.1
            have := rd_sum_gd T o 8 _ _ _ _ _ (by omega) he2.2 a.2.2.1 a.2.2.2 hs; omega
          · cases hs
        · cases hs; exact ⟨Int.le_refl _, a.2⟩
      simp only at h
      unfold rd_c3 at h
      cases ht : rd_tim T o s2 with
      | error p => rw [ht] at h; cases h
      | ok r =>
        obtain ⟨v, s3⟩ := r
        rw [ht] at h
        have c' : s2 ≤ s3 ∧ s3 ≤ T.2 ∧ 1 ≤ v ∧ v ≤ 20 := by
          unfold rd_tim at ht
          split at ht
          · split at ht
            · rename_i hn
              cases ht
              have he2 := tk_se b.2.1
              have he3 := tk_se he2.2
              exact ⟨by omega, he3.2, hn.2.1, hn.2.2⟩
            · cases ht
          · cases ht; exact ⟨Int.le_refl _, b.2.1, by decide, by decide⟩
        simp only at h
        unfold rd_c4 at h
        cases hq : rd_tst T o s3 n2 with
        | error p => rw [hq] at h; cases h
        | ok r =>
          obtain ⟨t, s5, n5'⟩ := r
          rw [hq] at h
          cases h
          unfold rd_tst at hq
          split at hq
          · cases hg : rd_test T o 8 (tk_e T s3) n2 with
            | error p => rw [hg] at hq; cases hq
            | ok r =>
              obtain ⟨g', s6, n6⟩ := r
              rw [hg] at hq
              cases hq
              have he4 := tk_se c'.2.1
              have gd := rd_test_gd T o 8 _ _ _ _ _ (by omega) he4.2 b.2.2.1 b.2.2.2 hg
              refine ⟨by omega, gd.2.1, gd.2.2.1, gd.2.2.2, ⟨⟨k0, k3⟩, c'.2.2, fun g2 h2 => ?_⟩, by omega⟩
              cases h2; exact rd_test_01 T o 8 _ _ _ _ _ hg
          · cases hq
            exact ⟨by omega, c'.2.1, b.2.2.1, b.2.2.2, ⟨⟨k0, k3⟩, c'.2.2, fun g2 h2 => by cases h2⟩, by omega⟩
theorem rd_txl_ok {T : tk_T} {o : Int} : ∀ (m : Nat) (cs : List rd_C) (s n : Int) (ds : List rd_C), 0 ≤ s → s ≤ T.2 → 0 ≤ n → n ≤ 50 → (∀ c ∈ cs, rd_cok c) → rd_txl T o m cs s n = .ok ds → (∀ c ∈ ds, rd_cok c) ∧ 1 ≤ ds.length ∧ ds.length ≤ 12
  | 0, cs, s, n, ds, _, _, _, _, _, h => by cases h
  | m + 1, cs, s, n, ds, h0, h1, n0, n5, hc, h => by
    simp only [rd_txl] at h
    cases hg : rd_cls T o s n (cs.length : Int) with
    | error p => rw [hg] at h; cases h
    | ok r =>
      obtain ⟨c, s1, n1⟩ := r
      rw [hg] at h
      obtain ⟨a1, a2, a3, a4, a5, a6⟩ := rd_cls_gd h0 h1 n0 n5 hg
      have hc' : ∀ x ∈ cs ++ [c], rd_cok x := fun x hx => by
        rcases List.mem_append.mp hx with h | h
        · exact hc x h
        · rw [List.mem_singleton.mp h]; exact a5
      simp only at h
      split at h
      · have he := tk_se a2
        exact rd_txl_ok m (cs ++ [c]) (tk_e T s1) n1 ds (by omega) he.2 a3 a4 hc' h
      · split at h
        · cases h
          exact ⟨hc', by simp, by simp; omega⟩
        · cases h
theorem rd_text_ok {T : tk_T} {o : Int} {cs : List rd_C} (hT : tk_ok T) (h : rd_text T o = .ok cs) : (∀ c ∈ cs, rd_cok c) ∧ 1 ≤ cs.length ∧ cs.length ≤ 12 := rd_txl_ok 13 [] 0 0 cs (Int.le_refl _) hT.1 (by decide) (by decide) (fun c h => by cases h) h
abbrev rc_rg : nm_Rg := [(30, 1, 9), (30, 10, 11), (30, 12, 13), (32, 0, 436), (33, 0, 60)]
theorem rc_265 {d : Nat} {a n : Int} {M : am_M} {Q : List am_V → am_M → Prop} (hd : 1 ≤ d) (hk : am_kd M a = 100) (ha : a < M.1) (hn : 0 ≤ n) (hn2 : n ≤ am_ln M a) (hl : am_ln M a ≤ 60000) (hQ : ∀ M', nm_Fg 1 n [] M M' → M'.1 = M.1 + 1 → M'.2.2.1 M.1 = (100, n) → (∀ k, 0 ≤ k → k < n → am_gt M' M.1 k = am_gt M a k) → Q [(2, M.1)] M') : am_CL d 265 [(2, a), (0, n)] M Q := by
  have hne : a ≠ M.1 := by omega
  show am_WP d am_c265 0 [(2, a), (0, n), (9, 0)] [] M Q
  have kd' : am_kd (am_nw M 100 n) a = 100 := by
    show ((if a = M.1 then (100, n) else M.2.2.1 a) : Nat × Int).1 = 100
    rw [if_neg hne]; exact hk
  have ln' : am_ln (am_nw M 100 n) a = am_ln M a := by
    show ((if a = M.1 then (100, n) else M.2.2.1 a) : Nat × Int).2 = _
    rw [if_neg hne]; rfl
  have kdn : am_kd (am_nw M 100 n) M.1 = 100 := by
    show ((if M.1 = M.1 then (100, n) else M.2.2.1 M.1) : Nat × Int).1 = 100
    rw [if_pos rfl]
  have lnn : am_ln (am_nw M 100 n) M.1 = n := by
    show ((if M.1 = M.1 then (100, n) else M.2.2.1 M.1) : Nat × Int).2 = n
    rw [if_pos rfl]
  refine g_265_0 ⟨hk, fun h => ⟨hn, by omega, kd', hd, hd, kd', kdn, ?_⟩, fun h => ⟨hd, hk, by omega, ?_, ?_⟩⟩
  · rw [ln', lnn, show min (am_ln M a) n = n by omega]
    refine ⟨hn, Int.le_refl _, Int.le_refl _, by omega, by omega, ?_⟩
    refine hQ _ ⟨by show M.1 ≤ M.1 + 1; omega, Int.le_refl _, Int.le_refl _, fun b hb => ?_, fun b i hb _ => ?_⟩ rfl ?_ (fun k k0 k1 => ?_)
    · show (if b = M.1 then (100, n) else M.2.2.1 b) = _; rw [if_neg (by omega)]
    · rw [nm_gt_cp, if_neg (fun q => by omega)]
      show (if b = M.1 then am_df 100 i else M.2.2.2 b i) = _; rw [if_neg (by omega)]; rfl
    · show (if M.1 = M.1 then (100, n) else M.2.2.1 M.1) = _; rw [if_pos rfl]
    · rw [nm_gt_cp, if_pos ⟨rfl, by omega, by omega⟩]
      show (if a = M.1 then am_df 100 (k - 0 + 0) else M.2.2.2 a (k - 0 + 0)) = _
      rw [if_neg hne, show k - 0 + 0 = k by omega]; rfl
  · show ((if M.1 = M.1 then (100, am_ln M a) else M.2.2.1 M.1) : Nat × Int).1 = 100
    rw [if_pos rfl]
  · have hna : am_ln M a = n := by omega
    refine hQ _ ⟨by show M.1 ≤ M.1 + 1; omega, Int.le_refl _, by show M.2.1 + am_ln M a ≤ _; omega, fun b hb => ?_, fun b i hb _ => ?_⟩ rfl ?_ (fun k k0 k1 => ?_)
    · show (if b = M.1 then (100, am_ln M a) else M.2.2.1 b) = _; rw [if_neg (by omega)]
    · show (if b = M.1 then M.2.2.2 a i else M.2.2.2 b i) = _; rw [if_neg (by omega)]; rfl
    · show (if M.1 = M.1 then (100, am_ln M a) else M.2.2.1 M.1) = _; rw [if_pos rfl, hna]
    · show (if M.1 = M.1 then M.2.2.2 a k else M.2.2.2 M.1 k) = _; rw [if_pos rfl]; rfl
theorem rc_124 {d : Nat} {t sz cl : Int} {M : am_M} {Q : List am_V → am_M → Prop} (hd : 2 ≤ d) (h33 : M.2.2.1 33 = (100, 60)) (h32 : M.2.2.1 32 = (100, 436)) (ht : 247 ≤ t) (ht1 : t < M.1) (hk : am_kd M t = 5) (z0 : 0 ≤ sz) (z1 : sz ≤ 12) (c0 : 0 ≤ cl) (c1 : cl ≤ 436)
    (hQ : ∀ M', nm_Fg 2 (5 * sz + cl) [(t, 0, 3)] M M' → M'.1 = M.1 + 2 → am_gt M' t 0 = sz → am_gt M' t 1 = M.1 + 1 → am_gt M' t 2 = M.1 → M'.2.2.1 M.1 = (100, 5 * sz) → M'.2.2.1 (M.1 + 1) = (100, cl) → (∀ k, 0 ≤ k → k < 5 * sz → am_gt M' M.1 k = am_gt M 33 k) → (∀ k, 0 ≤ k → k < cl → am_gt M' (M.1 + 1) k = am_gt M 32 k) → Q [] M') : am_CL d 124 [(2, t), (0, sz), (2, 33), (2, 32), (0, cl)] M Q := by
  have z : ((t, 0, 3) : Int × Int × Int) ∈ ([(t, 0, 3)] : nm_Rg) := List.mem_singleton.mpr rfl
  show am_WP d am_c124 0 [(2, t), (0, sz), (2, 33), (2, 32), (0, cl)] [] M Q
  have w5 : am_w (sz * 5) = 5 * sz := by rw [am_w_id (by omega) (by omega)]; omega
  refine g_124_0 ⟨by omega, by omega, hk, by omega, ?_⟩
  rw [w5]
  have F1 : nm_Fg 0 0 [(t, 0, 3)] M (am_st M t 0 sz) := nm_Fst (nm_Fg_refl _ _) z (by decide) (by decide)
  refine rc_265 (by omega) (show ((am_st M t 0 sz).2.2.1 33).1 = 100 by show (M.2.2.1 33).1 = 100; rw [h33]) (by show (33 : Int) < M.1; omega) (by omega) (show 5 * sz ≤ (M.2.2.1 33).2 by rw [h33]; show 5 * sz ≤ 60; omega) (show (M.2.2.1 33).2 ≤ 60000 by rw [h33]; decide) (fun M2 F2 e2 y2 v2 => ?_)
  have e2' : M2.1 = M.1 + 1 := e2
  have k2 : M2.2.2.1 t = M.2.2.1 t := F2.2.2.2.1 t ht1
  refine g_124_17 ⟨show (M2.2.2.1 t).1 = 5 by rw [k2]; exact hk, by omega, ?_⟩
  have F2' : nm_Fg 1 (5 * sz) [(t, 0, 3)] M M2 := nm_Fg_sub (nm_Fg_trans F1 (nm_Fg_sub F2 (g := [(t, 0, 3)]) (by rfl) (Int.le_refl _) (Int.le_refl _))) (by unfold nm_sb; simp) (by omega) (by omega)
  have F3 : nm_Fg 1 (5 * sz) [(t, 0, 3)] M (am_st M2 t 2 M.1) := nm_Fr_st F2' (nm_in_c z (by decide) (by decide))
  have t32 : (am_st M2 t 2 M.1).2.2.1 32 = (100, 436) := (F3.2.2.2.1 32 (by omega)).trans h32
  refine rc_265 (by omega) (show ((am_st M2 t 2 M.1).2.2.1 32).1 = 100 by rw [t32]) (by show (32 : Int) < M2.1; omega) c0 (show cl ≤ ((am_st M2 t 2 M.1).2.2.1 32).2 by rw [t32]; exact c1) (show ((am_st M2 t 2 M.1).2.2.1 32).2 ≤ 60000 by rw [t32]; decide) (fun M4 F4 e4 y4 v4 => ?_)
  have e4' : M4.1 = M.1 + 2 := by rw [e4]; show M2.1 + 1 = _; omega
  have F4' : nm_Fg 2 (5 * sz + cl) [(t, 0, 3)] M M4 := nm_Fg_sub (nm_Fg_trans F3 (nm_Fg_sub F4 (g := [(t, 0, 3)]) (by rfl) (Int.le_refl _) (Int.le_refl _))) (by unfold nm_sb; simp) (by omega) (by omega)
  have lt4 : ∀ b i, b < M.1 + 1 → am_gt M4 b i = am_gt (am_st M2 t 2 M.1) b i := fun b i hb => F4.2.2.2.2 b i (by show b < M2.1; omega) rfl
  have ty4 : ∀ b, b < M.1 + 1 → M4.2.2.1 b = M2.2.2.1 b := fun b hb => F4.2.2.2.1 b (by show b < M2.1; omega)
  have lt2 : ∀ b i, b < M.1 → am_gt M2 b i = am_gt (am_st M t 0 sz) b i := fun b i hb => F2.2.2.2.2 b i hb rfl
  refine g_124_27 ⟨show (M4.2.2.1 t).1 = 5 by rw [ty4 t (by omega), k2]; exact hk, ?_⟩
  have e21 : (am_st M2 t 2 M.1).1 = M.1 + 1 := e2'
  rw [show (am_st M2 t 2 (am_st M t 0 sz).1).1 = M.1 + 1 from e2']
  refine hQ _ (nm_Fr_st F4' (nm_in_c z (by decide) (by decide))) e4' ?_ ?_ ?_ ?_ ?_ (fun k a b => ?_) (fun k a b => ?_)
  · rw [nm_gt_st, if_neg (fun q => absurd q.2 (by decide)), lt4 t 0 (by omega), nm_gt_st, if_neg (fun q => absurd q.2 (by decide)), lt2 t 0 ht1, nm_gt_st, if_pos ⟨rfl, rfl⟩]
  · rw [nm_gt_st, if_pos ⟨rfl, rfl⟩]
  · rw [nm_gt_st, if_neg (fun q => absurd q.2 (by decide)), lt4 t 2 (by omega), nm_gt_st, if_pos ⟨rfl, rfl⟩]
  · show M4.2.2.1 M.1 = _
    rw [ty4 M.1 (by omega)]; exact y2
  · show M4.2.2.1 (M.1 + 1) = _
    rw [← e21]; exact y4
  · rw [nm_gt_st, if_neg (fun q => by omega), lt4 M.1 k (by omega), nm_gt_st, if_neg (fun q => by omega)]
    have := v2 k a b
    rw [show (am_st M t 0 sz).1 = M.1 from rfl] at this
    rw [this, nm_gt_st, if_neg (fun q => by omega)]
  · have v := v4 k a b
    rw [show (am_st M2 t 2 (am_st M t 0 sz).1).1 = M.1 + 1 from e2'] at v
    rw [nm_gt_st, if_neg (fun q => by omega), v, nm_gt_st, if_neg (fun q => by omega), lt2 32 k (by omega), nm_gt_st, if_neg (fun q => by omega)]
/-- a clause of a Text -/
def rc_tc (M : am_M) (o a b : Int) (k : Int) (c : rd_C) : Prop := am_gt M b (5 * k) = c.1 ∧ (c.1 ≠ 3 → nm_Blk M a (am_gt M b (5 * k + 1)) (nm_mN o) c.2.1) ∧ (o ≠ 0 ∧ c.1 = 2 → nm_Blk M a (am_gt M b (5 * k + 2)) (nm_mN o) c.2.2.1) ∧ am_gt M b (5 * k + 3) = c.2.2.2.1 ∧ ((c.2.2.2.2 = none ∧ am_gt M b (5 * k + 4) = -1) ∨ ∃ g, c.2.2.2.2 = some g ∧ 0 ≤ am_gt M b (5 * k + 4) ∧ nm_Blk M a (am_gt M b (5 * k + 4)) (nm_mN o) g)
def rd_c0 : rd_C := (0, rd_0, rd_0, 1, none)
/-- a Text of the class that holds these clauses -/
def rc_T (M : am_M) (o t : Int) (cs : List rd_C) : Prop := 247 ≤ t ∧ t < M.1 ∧ am_kd M t = 5 ∧ am_gt M t 0 = (cs.length : Int) ∧ cs.length ≤ 12 ∧ nm_row M (am_gt M t 1) ∧ nm_row M (am_gt M t 2) ∧ 5 * (cs.length : Int) ≤ am_ln M (am_gt M t 2) ∧ ∀ k : Nat, k < cs.length → rc_tc M o (am_gt M t 1) (am_gt M t 2) (k : Int) (cs.getD k rd_c0)
theorem rc_96 {d : Nat} {T : tk_T} {o x1 : Int} {M : am_M} {Q : List am_V → am_M → Prop} (hd : 30 ≤ d) (hT : tk_ok T) (ho : o = 0 ∨ o = 1) (hx1 : x1 = 1 - o) (hL : nm_Lay M) (hP : rc_tp M T)
    (hE : ∀ p M', rd_text T o = .error p → nm_Fr rc_rg M M' → am_gt M' 30 1 = 0 → am_gt M' 30 2 = p → Q [(2, -1)] M')
    (hK : ∀ cs t M', rd_text T o = .ok cs → t ≠ -1 → nm_Fg 3 600 rc_rg M M' → am_gt M' 30 1 = 0 → am_gt M' 30 2 = -1 → rc_T M' o t cs → Q [(2, t)] M') : am_CL d 96 [(2, 30), (0, x1)] M Q := by
  have t4 := hT.2.1
  have t0 := hT.1
  -- where it is wrong
  have bad : ∀ (p : Int) (M1 : am_M), rd_text T o = .error p → nm_Fr rc_rg M M1 → am_gt M1 30 2 = p → Q [(2, -1)] (am_st M1 30 1 0) := fun p M1 hp F1 e1 => hE p _ hp (nm_Fr_st F1 (by decide)) (by rw [nm_gt_st, if_pos ⟨rfl, rfl⟩]) (by rw [nm_gt_st, if_neg (fun q => absurd q.2 (by decide))]; exact e1)
  have bad41 : ∀ (p : Int) (M1 : am_M) (i : Int), nm_Lay M1 → rd_text T o = .error p → nm_Fr rc_rg M M1 → am_gt M1 30 2 = p → am_WP d am_c96 41 [(2, 30), (0, x1), (0, 0), (0, i)] [] M1 Q := fun p M1 i L1 hp F1 e1 => g_96_41 ⟨fun _ => ⟨fun _ => ⟨nm_k30 L1, fun _ => bad p M1 hp F1 e1, fun h => absurd rfl h⟩, fun h => absurd rfl h⟩, fun h => absurd rfl h⟩
  -- the Text is made
  have mk : ∀ (cs : List rd_C) (s n cl i : Int) (M1 : am_M), rd_text T o = .ok cs → nm_Fr rc_rg M M1 → am_gt M1 30 2 = -1 → rc_st M1 T o s n cl → am_gt M1 30 12 = (cs.length : Int) → cs.length ≤ 12 → (∀ k : Nat, k < cs.length → rc_cla M1 o cl (k : Int) (cs.getD k rd_c0)) → am_WP d am_c96 83 [(2, 30), (0, x1), (0, 1), (0, i)] [(0, 1)] M1 Q := by
    intro cs s n cl i M1 hok F1 e1 st1 g12 hlen hcl
    have L1 := st1.1
    have g10 := st1.2.2.2.2.2.1
    have c0 := st1.2.2.2.2.2.2.2.2.2.2.1
    have c4 := st1.2.2.2.2.2.2.2.2.2.2.2
    have m247 := L1.2.2.1
    have nb : (0 : Int) ≤ (cs.length : Int) ∧ (cs.length : Int) ≤ 12 := by omega
    have tyk : ∀ b, b < M1.1 → (am_nw (am_st M1 30 1 0) 5 3).2.2.1 b = M1.2.2.1 b := fun b hb => by
      show (if b = M1.1 then (5, 3) else M1.2.2.1 b) = _; rw [if_neg (by omega)]
    have gtk : ∀ b j, b < M1.1 → am_gt (am_nw (am_st M1 30 1 0) 5 3) b j = am_gt (am_st M1 30 1 0) b j := fun b j hb => by
      show (if b = M1.1 then am_df 5 j else (am_st M1 30 1 0).2.2.2 b j) = _; rw [if_neg (by omega)]; rfl
    have k30 : am_kd (am_nw (am_st M1 30 1 0) 5 3) 30 = 3 := by
      show ((am_nw (am_st M1 30 1 0) 5 3).2.2.1 30).1 = 3
      rw [tyk 30 (by omega)]; exact nm_k30 L1
    have kt : am_kd (am_nw (am_st M1 30 1 0) 5 3) M1.1 = 5 := by
      show ((if M1.1 = M1.1 then (5, 3) else M1.2.2.1 M1.1) : Nat × Int).1 = 5; rw [if_pos rfl]
    have G : ∀ j, j ≠ 1 → am_gt (am_nw (am_st M1 30 1 0) 5 3) 30 j = am_gt M1 30 j := fun j hj => by rw [gtk 30 j (by omega), nm_gt_st, if_neg (fun q => hj q.2)]
    have r11 : am_gt M1 30 11 = 33 := L1.2.1 (30, 11, 33) (by decide +kernel)
    have r9 : am_gt M1 30 9 = 32 := L1.2.1 (30, 9, 32) (by decide +kernel)
    refine g_96_83 ⟨fun _ => ⟨nm_k30 L1, fun h => absurd h (by decide), fun _ => ⟨k30, k30, k30, k30, kt, by omega, ?_⟩⟩, fun h => absurd (by decide) h⟩
    rw [G 12 (by decide), G 11 (by decide), G 9 (by decide), G 10 (by decide), g12, g10, r11, r9]
    refine rc_124 (t := M1.1) (by omega) ((tyk 33 (by omega)).trans (L1.1 33 (by decide) (by decide))) ((tyk 32 (by omega)).trans (L1.1 32 (by decide) (by decide))) m247 (by show M1.1 < M1.1 + 1; omega) kt nb.1 nb.2 c0 c4 (fun M3 F3 e3 v0 v1 v2 y1 y2 u1 u2 => ?_)
    have e3' : M3.1 = M1.1 + 3 := by rw [e3]; show M1.1 + 1 + 2 = _; omega
    -- the frame
    have Fall : nm_Fg 3 600 rc_rg M M3 := by
      have q1 := F1.1
      have q2 := F1.2.1
      have q3 := F1.2.2.1
      have q4 := F3.2.2.1
      have q5 : (am_nw (am_st M1 30 1 0) 5 3).2.1 = M1.2.1 + 3 := rfl
      refine ⟨by omega, by omega, by omega, fun b hb => ?_, fun b j hb hj => ?_⟩
      · rw [F3.2.2.2.1 b (by show b < M1.1 + 1; omega), tyk b (by omega)]; exact F1.2.2.2.1 b hb
      · have hne : nm_in [(M1.1, 0, 3)] b j = false := by
          rw [Bool.eq_false_iff]; intro hi
          obtain ⟨q, hq, e1, -⟩ := nm_in_iff.mp hi
          rw [List.mem_singleton.mp hq] at e1
          simp only at e1; omega
        rw [F3.2.2.2.2 b j (by show b < M1.1 + 1; omega) hne, gtk b j (by omega), nm_gt_st]
        by_cases hbj : b = 30 ∧ j = 1
        · rw [hbj.1, hbj.2] at hj
          exact absurd hj (by decide)
        · rw [if_neg hbj]; exact F1.2.2.2.2 b j hb hj
    have g31 : ∀ j, am_gt M3 30 j = am_gt (am_st M1 30 1 0) 30 j := fun j => by
      rw [F3.2.2.2.2 30 j (by show (30 : Int) < M1.1 + 1; omega) (by
        rw [Bool.eq_false_iff]; intro hi
        obtain ⟨q, hq, e1, -⟩ := nm_in_iff.mp hi
        rw [List.mem_singleton.mp hq] at e1
        simp only at e1; omega), gtk 30 j (by omega)]
    have ty1 : M3.2.2.1 (M1.1 + 1) = (100, 5 * (cs.length : Int)) := y1
    have ty2 : M3.2.2.1 (M1.1 + 2) = (100, cl) := by rw [show M1.1 + 2 = (am_nw (am_st M1 30 1 0) 5 3).1 + 1 by show _ = M1.1 + 1 + 1; omega]; exact y2
    have tyt : M3.2.2.1 M1.1 = (5, 3) := (F3.2.2.2.1 M1.1 (by show M1.1 < M1.1 + 1; omega)).trans (by show (if M1.1 = M1.1 then (5, 3) else M1.2.2.1 M1.1) = _; rw [if_pos rfl])
    have a1 : am_gt M3 M1.1 1 = M1.1 + 2 := by rw [v1]; show M1.1 + 1 + 1 = _; omega
    have a2 : am_gt M3 M1.1 2 = M1.1 + 1 := v2
    have c33 : ∀ k, 0 ≤ k → k < 5 * (cs.length : Int) → am_gt M3 (M1.1 + 1) k = am_gt M1 33 k := fun k x y => (u1 k x y).trans ((gtk 33 k (by omega)).trans (by rw [nm_gt_st, if_neg (fun q => absurd q.1 (by decide))]))
    have c32 : ∀ k, 0 ≤ k → k < cl → am_gt M3 (M1.1 + 2) k = am_gt M1 32 k := fun k x y => by
      have := u2 k x y
      rw [show (am_nw (am_st M1 30 1 0) 5 3).1 + 1 = M1.1 + 2 by show M1.1 + 1 + 1 = _; omega] at this
      exact this.trans ((gtk 32 k (by omega)).trans (by rw [nm_gt_st, if_neg (fun q => absurd q.1 (by decide))]))
    have blk : ∀ i f, rc_blk M1 o i cl f → nm_Blk M3 (M1.1 + 2) i (nm_mN o) f := by
      rintro i f ⟨j, b1, b2, b3, b4⟩
      refine ⟨am_gt M1 32, j, 64, b1, Int.le_refl _, b2, b3, ?_, fun k x y => c32 k (by omega) (by omega)⟩
      show j + 1 ≤ (M3.2.2.1 (M1.1 + 2)).2
      rw [ty2]; show j + 1 ≤ cl; omega
    refine g_96_131 (hK cs M1.1 M3 hok (by omega) Fall (by rw [g31, nm_gt_st, if_pos ⟨rfl, rfl⟩]) (by rw [g31, nm_gt_st, if_neg (fun q => absurd q.2 (by decide))]; exact e1) ⟨m247, by omega, ?_, v0, hlen, ?_, ?_, ?_, fun k hk => ?_⟩)
    · show (M3.2.2.1 M1.1).1 = 5; rw [tyt]
    · rw [a1]; exact ⟨by omega, by omega, by show (M3.2.2.1 (M1.1 + 2)).1 = 100; rw [ty2], by show (M3.2.2.1 (M1.1 + 2)).2 ≤ 60000; rw [ty2]; show cl ≤ 60000; omega⟩
    · rw [a2]; exact ⟨by omega, by omega, by show (M3.2.2.1 (M1.1 + 1)).1 = 100; rw [ty1], by show (M3.2.2.1 (M1.1 + 1)).2 ≤ 60000; rw [ty1]; show 5 * (cs.length : Int) ≤ 60000; omega⟩
    · rw [a2]; show _ ≤ (M3.2.2.1 (M1.1 + 1)).2; rw [ty1]; exact Int.le_refl _
    · rw [a1, a2]
      obtain ⟨q0, q1, q2, q3, q4⟩ := hcl k hk
      unfold rc_tc
      rw [c33 _ (by omega) (by omega), c33 _ (by omega) (by omega), c33 _ (by omega) (by omega), c33 _ (by omega) (by omega), c33 _ (by omega) (by omega)]
      refine ⟨q0, fun h => blk _ _ (q1 h), fun h => blk _ _ (q2 h), q3, ?_⟩
      rcases q4 with q | ⟨g, r1, r2, r3⟩
      · exact .inl q
      · exact .inr ⟨g, r1, r2, blk _ _ r3⟩
  -- behind a clause
  have aft : ∀ (m : Nat) (cs : List rd_C) (s n cl : Int) (M1 : am_M), cs.length + m = 13 → 1 ≤ m → nm_Fr rc_rg M M1 → am_gt M1 30 2 = -1 → rc_st M1 T o s n cl → am_gt M1 30 12 = (cs.length : Int) → cl - s ≤ 3 * (cs.length : Int) → (∀ k : Nat, k < cs.length → rc_cla M1 o cl (k : Int) (cs.getD k rd_c0)) → rd_text T o = (if tk_x T s = rd_tx 38 then rd_txl T o m cs (tk_e T s) n else if tk_k T s = 0 then .ok cs else .error (tk_b T s)) → am_WP d am_c96 41 [(2, 30), (0, x1), (0, 1), (0, (cs.length : Int))] [] M1 Q := by
    intro m
    induction m with
    | zero => intro cs s n cl M1 hm h1; omega
    | succ m ih =>
      intro cs s n cl M1 hm _ F1 e1 st1 g12 hsl hcl heq
      have L1 := st1.1
      have s14 := st1.2.2.2.2.2.2.2.1
      have s10 := st1.2.2.2.2.2.2.1
      have he := tk_se s14
      have hk30 := nm_k30 L1
      refine g_96_41 ⟨fun h => absurd h (by decide), fun _ => ⟨hk30, by omega, rc_is 38 rfl (by decide) (by omega) hT st1 ?_⟩⟩
      by_cases e38 : tk_x T s = rd_tx 38
      · rw [if_pos e38] at heq ⊢
        refine g_96_51 ⟨fun h => absurd h (by decide), fun _ => ⟨fun h => absurd h (by omega), fun _ => ⟨hk30, by omega, rc_step (by omega) hT st1 (fun M2 mv2 st2 => h_96_64 st2.1 ⟨by omega, ?_⟩)⟩⟩⟩
        have g12' : am_gt M2 30 12 = (cs.length : Int) := ((rc_fg_k L1 mv2.1).1).trans g12
        simp only [rd_txl] at heq
        refine rc_105 (by omega) hT ho (by omega) (by omega) st2 g12' (by omega) (fun p M3 s' n' cl' hp F3 st3 e3 => ?_) (fun c s4 n4 M3 cl' hok F3 a2 kc k3 st3 z3 hle sl3 cla3 => ?_)
        · rw [hp] at heq
          exact h_96_68 st3.1 (bad41 p M3 _ st3.1 heq (nm_Fr_trans (nm_Fr_trans F1 (nm_Fr_sub mv2.1 (by decide))) (nm_Fr_sub F3 (by decide))) e3)
        · rw [hok] at heq
          have gd := rd_cls_gd (by omega) he.2 st2.2.2.2.2.2.2.2.2.1 st2.2.2.2.2.2.2.2.2.2.1 hok
          refine h_96_68 st3.1 ?_
          have w1 : am_w ((cs.length : Int) + 1) = ((cs ++ [c]).length : Int) := by rw [am_w_id (by omega) (by omega)]; simp
          rw [w1]
          refine ih (cs ++ [c]) s4 n4 cl' M3 (by simp; omega) (by have := gd.2.2.2.2.2; omega) (nm_Fr_trans (nm_Fr_trans F1 (nm_Fr_sub mv2.1 (by decide))) (nm_Fr_sub F3 (by decide))) (a2.trans (mv2.2.1.trans e1)) st3 (by rw [z3]; simp) (by simp; omega) (fun k hk => ?_) heq
          simp at hk
          by_cases hkl : k < cs.length
          · have := hcl k hkl
            rw [show (cs ++ [c]).getD k rd_c0 = cs.getD k rd_c0 by rw [List.getD_eq_getElem?_getD, List.getD_eq_getElem?_getD, List.getElem?_append_left hkl]]
            exact rc_cla_m (rc_cla_m this (fun j x y => mv2.2.2 j x y) (fun i _ => (rc_fg_k L1 mv2.1).2 i) (Int.le_refl _)) kc (fun i hi => k3 i (by omega)) hle
          · have : k = cs.length := by omega
            subst this
            rw [show (cs ++ [c]).getD cs.length rd_c0 = c by rw [List.getD_eq_getElem?_getD, List.getElem?_concat_length]; rfl]
            exact cla3
      · rw [if_neg e38] at heq ⊢
        refine g_96_51 ⟨fun _ => ⟨fun h => absurd h (by decide), fun _ => ⟨hk30, by omega, ?_⟩⟩, fun h => absurd rfl h⟩
        have hb4 := st1.2.2.1.1
        have hl1 := st1.2.1.1
        refine h_100_0 L1 ?_
        rw [hb4, hl1]
        refine ⟨fun h => ?_, fun h => ?_⟩
        · have hk : ¬ tk_k T s = 0 := fun q => by have := tk_k0.mp q; omega
          rw [if_neg hk] at heq
          refine g_96_83 ⟨fun h => absurd rfl h, fun _ => ⟨hk30, by omega, rc_fail st1 (fun M3 F3 st3 e3 => ?_)⟩⟩
          exact g_96_90 ⟨fun _ => ⟨nm_k30 st3.1, fun _ => bad _ M3 heq (nm_Fr_trans F1 (nm_Fr_sub F3 (by decide))) e3, fun h => absurd rfl h⟩, fun h => absurd rfl h⟩
        · have hk : tk_k T s = 0 := tk_k0.mpr (by omega)
          rw [if_pos hk] at heq
          exact mk cs s n cl _ M1 heq F1 e1 st1 g12 (by omega) hcl
  -- the beginning
  have hx : x1 = 0 ∨ x1 = 1 := by omega
  have Fs : ∀ (M1 : am_M) (i v : Int), nm_Fr rc_rg M M1 → (1 ≤ i ∧ i < 9) ∨ i = 10 ∨ i = 12 → nm_Fr rc_rg M (am_st M1 30 i v) := by
    intro M1 i v F h
    refine nm_Fr_st F ?_
    rcases h with h | rfl | rfl
    · exact nm_in_c (lo := 1) (hi := 9) (by simp only [List.mem_cons, true_or]) h.1 h.2
    · decide
    · decide
  have A1 := Fs M 3 x1 (nm_Fg_refl _ _) (by omega)
  have A2 := Fs _ 2 (-1) A1 (by omega)
  have A3 := Fs _ 5 0 A2 (by omega)
  have A4 := Fs _ 8 0 A3 (by omega)
  have A5 := Fs _ 10 0 A4 (by omega)
  have A6 := Fs _ 12 0 A5 (by omega)
  have lay : ∀ {M'}, nm_Fr rc_rg M M' → nm_Lay M' := fun F => nm_Lay_fr hL F (by decide +kernel)
  refine h_96_0 hL ⟨hx, h_96_5 (lay A1) (h_96_10 (lay A2) (h_96_15 (lay A3) (h_96_20 (lay A4) ⟨by omega, ?_⟩)))⟩
  have g3 : am_gt (am_st (am_st (am_st (am_st (am_st (am_st M 30 3 x1) 30 2 (-1)) 30 5 0) 30 8 0) 30 10 0) 30 12 0) 30 3 = x1 := by simp only [nm_gt_st, Int.reduceEq, and_false, and_true, if_false, if_true]
  have g2 : am_gt (am_st (am_st (am_st (am_st (am_st (am_st M 30 3 x1) 30 2 (-1)) 30 5 0) 30 8 0) 30 10 0) 30 12 0) 30 2 = -1 := by simp only [nm_gt_st, Int.reduceEq, and_false, and_true, if_false, if_true]
  have g5 : am_gt (am_st (am_st (am_st (am_st (am_st (am_st M 30 3 x1) 30 2 (-1)) 30 5 0) 30 8 0) 30 10 0) 30 12 0) 30 5 = 0 := by simp only [nm_gt_st, Int.reduceEq, and_false, and_true, if_false, if_true]
  have g8 : am_gt (am_st (am_st (am_st (am_st (am_st (am_st M 30 3 x1) 30 2 (-1)) 30 5 0) 30 8 0) 30 10 0) 30 12 0) 30 8 = 0 := by simp only [nm_gt_st, Int.reduceEq, and_false, and_true, if_false, if_true]
  have g10 : am_gt (am_st (am_st (am_st (am_st (am_st (am_st M 30 3 x1) 30 2 (-1)) 30 5 0) 30 8 0) 30 10 0) 30 12 0) 30 10 = 0 := by simp only [nm_gt_st, Int.reduceEq, and_false, and_true, if_false, if_true]
  have g12 : am_gt (am_st (am_st (am_st (am_st (am_st (am_st M 30 3 x1) 30 2 (-1)) 30 5 0) 30 8 0) 30 10 0) 30 12 0) 30 12 = 0 := by simp only [nm_gt_st, Int.reduceEq, and_false, and_true, if_false, if_true]
  have g1 : rc_tp (am_st (am_st (am_st (am_st (am_st (am_st M 30 3 x1) 30 2 (-1)) 30 5 0) 30 8 0) 30 10 0) 30 12 0) T := by
    refine ⟨?_, fun i a b => ?_⟩
    · simp only [nm_gt_st, Int.reduceEq, and_false, and_true, if_false]; exact hP.1
    · simp only [nm_gt_st, Int.reduceEq, false_and, if_false]; exact hP.2 i a b
  have LA := lay A6
  generalize am_st (am_st (am_st (am_st (am_st (am_st M 30 3 x1) 30 2 (-1)) 30 5 0) 30 8 0) 30 10 0) 30 12 0 = MA at A6 g1 g2 g3 g5 g8 g10 g12 LA ⊢
  refine rc_99 (by omega) LA hT g1 g5 (Int.le_refl _) t0 (fun M1 F1 hk1 => ?_)
  have F1' : nm_Fr rc_fg MA M1 := nm_Fr_sub F1 (by decide)
  have st1 : rc_st M1 T o 0 0 0 := ⟨rc_lay LA F1', rc_tp_f LA F1' g1, hk1, ((rc_o_f LA F1').trans g3).trans hx1, (nm_gt_frd (g := [(30, 8, 9)]) F1 LA (by decide) (by decide) (by decide)).trans g8, (nm_gt_frd (g := [(30, 10, 11)]) F1 LA (by decide) (by decide) (by decide)).trans g10, Int.le_refl _, t0, Int.le_refl _, by decide, Int.le_refl _, by decide⟩
  have FM1 : nm_Fr rc_rg M M1 := nm_Fr_trans A6 (nm_Fr_sub F1 (by decide))
  have e2 : am_gt M1 30 2 = -1 := (nm_gt_frd (g := [(30, 2, 3)]) F1 LA (by decide) (by decide) (by decide)).trans g2
  refine h_96_34 st1.1 ⟨by omega, rc_105 (sz := 0) (by omega) hT ho (by decide) (by decide) st1 (((rc_fg_k LA F1').1).trans g12) (by decide) (fun p M3 s' n' cl' hp F3 st3 e3 => ?_) (fun c s4 n4 M3 cl' hok F3 a2 kc k3 st3 z3 hle sl3 cla3 => ?_)⟩
  · have heq : rd_text T o = .error p := by unfold rd_text; simp only [rd_txl, List.length_nil]; rw [show ((0 : Nat) : Int) = 0 from rfl, hp]
    exact h_96_38 st3.1 (bad41 p M3 _ st3.1 heq (nm_Fr_trans FM1 (nm_Fr_sub F3 (by decide))) e3)
  · refine h_96_38 st3.1 ?_
    refine aft 12 [c] s4 n4 cl' M3 rfl (by decide) (nm_Fr_trans FM1 (nm_Fr_sub F3 (by decide))) (a2.trans e2) st3 z3 (by simp; omega) (fun k hk => ?_) ?_
    · have : k = 0 := by simp at hk; omega
      subst this
      exact cla3
    · unfold rd_text
      show rd_txl T o (12 + 1) [] 0 0 = _
      simp only [rd_txl, List.length_nil]
      rw [show ((0 : Nat) : Int) = 0 from rfl, hok]
      rfl
