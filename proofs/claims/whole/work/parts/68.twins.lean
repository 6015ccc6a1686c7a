/-! TWINS -/
theorem nmc_80 {d : Nat} {m p h : Int} {M : am_M} {Q : List am_V → am_M → Prop} (hL : nm_Lay M) (m0 : 0 ≤ m) (m1 : m < 6) (p0 : 0 ≤ p) (p1 : p < 6) (h0 : 0 ≤ h) (h1 : h ≤ 8) (hQ : Q [(0, 48 * m + 8 * p + h - 1)] M) : am_CL d 80 [(0, m), (0, p), (0, h)] M Q := by
  refine h_80_0 hL ?_
  rw [am_w_id (x := m * 6) (by omega) (by omega), am_w_id (x := m * 6 + p) (by omega) (by omega), am_w_id (x := (m * 6 + p) * 8) (by omega) (by omega), am_w_id (x := (m * 6 + p) * 8 + h) (by omega) (by omega), am_w_id (by omega) (by omega), show (m * 6 + p) * 8 + h - 1 = 48 * m + 8 * p + h - 1 by omega]
  exact hQ
abbrev nm_lmg : nm_Rg := nm_Ag ++ [(22, 0, 288)]
theorem nmc_82 {d : Nat} {m p H : Int} {X : nm_X} {M : am_M} {Q : List am_V → am_M → Prop} (hd : 6 ≤ d) (hC : nm_C M X) (hok : nm_ok X) (m0 : 0 ≤ m) (m1 : m < nx_S X 0) (p0 : 0 ≤ p) (p1 : p < 6) (H0 : 0 ≤ H) (H1 : H ≤ 8) (hQ : ∀ M', nm_Fr nm_lmg M M' → (∀ h, p < h → h ≤ H → am_gt M' 22 (48 * m + 8 * p + h - 1) = nm_mk (nx_S X) (nx_W X) (nm_lwf (nx_S X) (nx_D X)) m p h) → (∀ i, i < 48 * m + 8 * p ∨ 48 * m + 8 * p + 8 ≤ i → am_gt M' 22 i = am_gt M 22 i) → Q [] M') : am_CL d 82 [(2, 20), (0, m), (0, p), (0, H)] M Q := by
  have hL := nm_C_L hC
  have oW : nm_okW (nx_S X 0) (nx_W X) := hok.1.2.2.1
  have o0 := hC.1.2.2.1.1
  refine h_82_0 hL ?_
  rw [am_w_id (by omega) (by omega)]
  have key : ∀ j : Nat, j ≤ (H - p).toNat → ∀ M1 l5, nm_Fr nm_lmg M M1 → (∀ h, p < h → h < p + 1 + (j : Int) → am_gt M1 22 (48 * m + 8 * p + h - 1) = nm_mk (nx_S X) (nx_W X) (nm_lwf (nx_S X) (nx_D X)) m p h) → (∀ i, i < 48 * m + 8 * p ∨ 48 * m + 8 * p + 8 ≤ i → am_gt M1 22 i = am_gt M 22 i) → am_WP d am_c82 5 [(2, 20), (0, m), (0, p), (0, H), (0, p + 1 + (j : Int)), l5] [] M1 Q := by
    refine nm_dn ?_
    intro j hj ih M1 l5 F1 a1 b1
    have C1 := nm_C_fr hC F1 (by decide +kernel)
    obtain ⟨hL1, hS, hO, hX⟩ := C1.1
    refine h_82_5 hL1 ⟨fun h => hQ M1 F1 (fun h' x y => a1 h' x (by omega)) b1, fun h => ⟨by omega, nmc_116 hL1 hS hO m0 m1 p0 (by omega) (by omega) ?_⟩⟩
    refine h_82_22 hL1 ⟨by omega, nmc_80 hL1 m0 (by omega) p0 p1 (by omega) (by omega) ?_⟩
    refine h_82_35 hL1 ⟨by omega, nmc_123 (by omega) hL1 hS hO hX (fun t ht => h_82_53 hL1 ⟨by omega, nmc_58 (by omega) C1.1 (by decide) C1.2.1 oW ht m0 (by omega) (by omega) (by omega) (nm_seen_in hO m0 m1 (by omega)) (fun M2 F2 => ?_)⟩)⟩
    have F02 : nm_Fr nm_lmg M M2 := nm_Fr_trans F1 (nm_Fr_appl F2)
    refine h_82_62 (nm_Lay_fr hL F02 (by decide +kernel)) ⟨by omega, by omega, ?_⟩
    rw [am_w_id (x := p + 1 + (j : Int) + 1) (by omega) (by omega), show p + 1 + (j : Int) + 1 = p + 1 + ((j + 1 : Nat) : Int) by omega]
    have e22 : ∀ i, am_gt M2 22 i = am_gt M1 22 i := fun i => nm_gt_frn F2 hL1 (by decide) (by decide +kernel)
    refine ih (by omega) _ _ (nm_Fr_st F02 (nm_in_c (a := 22) (lo := 0) (hi := 288) (by decide +kernel) (by omega) (by omega))) (fun h' x y => ?_) (fun i hi => ?_)
    · rw [nm_gt_st]
      by_cases hh : h' = p + 1 + (j : Int)
      · rw [if_pos ⟨rfl, by omega⟩, hh]; rfl
      · rw [if_neg (by omega), e22]; exact a1 h' x (by omega)
    · rw [nm_st_nj (by omega), e22]; exact b1 i hi
  have := key 0 (Nat.zero_le _) M (9, 0) (nm_Fg_refl _ _) (fun h x y => absurd y (by omega)) (fun i _ => rfl)
  rw [show p + 1 + ((0 : Nat) : Int) = p + 1 by omega] at this
  exact this
/-- two make alike by the first k hours -/
def nm_aln (S : Int → Int) (W : nm_W) (T : nm_T) (a b : Int) : Nat → Bool
  | 0 => true
  | k + 1 => nm_aln S W T a b k && decide (nm_mk S W T a 0 ((k : Int) + 1) = nm_mk S W T b 0 ((k : Int) + 1))
theorem nm_aln_mono {S : Int → Int} {W : nm_W} {T : nm_T} {a b : Int} {k : Nat} (h : nm_aln S W T a b k = false) : ∀ j : Nat, nm_aln S W T a b (k + j) = false
  | 0 => h
  | j + 1 => by
    show (nm_aln S W T a b (k + j) && _) = false
    rw [nm_aln_mono h j, Bool.false_and]
def nm_tst (al : Int → Int → Bool) (i : Int) (st : Int × Int) (m o : Int) : Int × Int := if al m o then (st.1 + 1, if st.1 = i then 10 * m + o else st.2) else st
def nm_tin (al : Int → Int → Bool) (i : Int) (m : Nat) : Nat → Int × Int → Int × Int
  | 0, st => st
  | k + 1, st => nm_tst al i (nm_tin al i m k st) (m : Int) ((m : Int) + 1 + (k : Int))
def nm_tout (al : Int → Int → Bool) (i : Int) (n : Nat) : Nat → Int × Int
  | 0 => (0, -1)
  | m + 1 => nm_tin al i m (n - 1 - m) (nm_tout al i n m)
theorem nm_tst_keep {al : Int → Int → Bool} {i m o : Int} {st : Int × Int} (h : i < st.1) : i < (nm_tst al i st m o).1 ∧ (nm_tst al i st m o).2 = st.2 := by
  unfold nm_tst
  split
  · exact ⟨by show i < st.1 + 1; omega, if_neg (by omega)⟩
  · exact ⟨h, rfl⟩
theorem nm_tin_keep {al : Int → Int → Bool} {i : Int} {m k : Nat} {st : Int × Int} (h : i < (nm_tin al i m k st).1) : ∀ j : Nat, i < (nm_tin al i m (k + j) st).1 ∧ (nm_tin al i m (k + j) st).2 = (nm_tin al i m k st).2
  | 0 => ⟨h, rfl⟩
  | j + 1 => by
    obtain ⟨h1, h2⟩ := nm_tin_keep h j
    obtain ⟨h3, h4⟩ := nm_tst_keep (al := al) (m := (m : Int)) (o := (m : Int) + 1 + ((k + j : Nat) : Int)) h1
    exact ⟨h3, h4.trans h2⟩
theorem nm_tout_keep {al : Int → Int → Bool} {i : Int} {n m : Nat} (h : i < (nm_tout al i n m).1) : ∀ j : Nat, i < (nm_tout al i n (m + j)).1 ∧ (nm_tout al i n (m + j)).2 = (nm_tout al i n m).2
  | 0 => ⟨h, rfl⟩
  | j + 1 => by
    obtain ⟨h1, h2⟩ := nm_tout_keep h j
    have h3 := nm_tin_keep (al := al) (i := i) (m := m + j) (k := 0) (st := nm_tout al i n (m + j)) h1 (n - 1 - (m + j))
    rw [Nat.zero_add] at h3
    exact ⟨h3.1, h3.2.trans h2⟩
theorem nm_tst_in {al : Int → Int → Bool} {i m o : Int} {st : Int × Int} {c : Int} (h : 0 ≤ st.1 ∧ st.1 ≤ c) : 0 ≤ (nm_tst al i st m o).1 ∧ (nm_tst al i st m o).1 ≤ c + 1 ∧ (i < 0 → (nm_tst al i st m o).2 = st.2) := by
  unfold nm_tst
  split
  · exact ⟨by show 0 ≤ st.1 + 1; omega, by show st.1 + 1 ≤ _; omega, fun hi => if_neg (by omega)⟩
  · exact ⟨h.1, by omega, fun _ => rfl⟩
theorem nm_tin_in {al : Int → Int → Bool} {i : Int} {m : Nat} {st : Int × Int} {c : Int} (h : 0 ≤ st.1 ∧ st.1 ≤ c) : ∀ k : Nat, 0 ≤ (nm_tin al i m k st).1 ∧ (nm_tin al i m k st).1 ≤ c + (k : Int) ∧ (i < 0 → (nm_tin al i m k st).2 = st.2)
  | 0 => ⟨h.1, by show st.1 ≤ _; omega, fun _ => rfl⟩
  | k + 1 => by
    obtain ⟨h1, h2, h3⟩ := nm_tin_in h k
    obtain ⟨h4, h5, h6⟩ := nm_tst_in (al := al) (i := i) (m := (m : Int)) (o := (m : Int) + 1 + (k : Int)) ⟨h1, h2⟩
    exact ⟨h4, by show (nm_tst al i _ _ _).1 ≤ _; omega, fun hi => (h6 hi).trans (h3 hi)⟩
theorem nm_tout_in {al : Int → Int → Bool} {i : Int} {n : Nat} (hn : n ≤ 6) : ∀ m : Nat, m ≤ n → 0 ≤ (nm_tout al i n m).1 ∧ (nm_tout al i n m).1 ≤ 6 * (m : Int) ∧ (i < 0 → (nm_tout al i n m).2 = -1)
  | 0, _ => ⟨Int.le_refl _, by show (0 : Int) ≤ _; omega, fun _ => rfl⟩
  | m + 1, hm => by
    obtain ⟨h1, h2, h3⟩ := nm_tout_in hn m (by omega)
    obtain ⟨h4, h5, h6⟩ := nm_tin_in (al := al) (i := i) (m := m) ⟨h1, h2⟩ (n - 1 - m)
    exact ⟨h4, by show (nm_tin al i m (n - 1 - m) _).1 ≤ _; omega, fun hi => (h6 hi).trans (h3 hi)⟩
def sp_34 (X : nm_X) (i : Int) : nm_X × Int := (X, if i = -1 then (nm_tout (fun a b => nm_aln (nx_S X) (nx_W X) (nm_lwf (nx_S X) (nx_D X)) a b 8) i (nx_S X 0).toNat (nx_S X 0).toNat).1 else (nm_tout (fun a b => nm_aln (nx_S X) (nx_W X) (nm_lwf (nx_S X) (nx_D X)) a b 8) i (nx_S X 0).toNat (nx_S X 0).toNat).2)
theorem nmp_34 {d : Nat} {i : Int} {X : nm_X} {M : am_M} {Q : List am_V → am_M → Prop} (hd : 8 ≤ d) (hC : nm_C M X) (hok : nm_ok X) (hQ : nm_KC (sp_34 X i).1 [(0, (sp_34 X i).2)] M Q) : am_CL d 34 [(2, 0), (0, i)] M Q := by
  have hL := nm_C_L hC
  have o0 := hC.1.2.2.1.1
  unfold sp_34 at hQ
  simp only at hQ
  generalize hal : (fun a b => nm_aln (nx_S X) (nx_W X) (nm_lwf (nx_S X) (nx_D X)) a b 8) = al at hQ
  refine h_34_0 hL ⟨fun hi => ⟨by omega, h_78_0 hL ?_⟩, fun hi => h_34_17 hL ?_⟩
  · have fin : ∀ M2 v, nm_Fr nm_lmg M M2 → v = (if i = -1 then (nm_tout al i (nx_S X 0).toNat (nx_S X 0).toNat).1 else (nm_tout al i (nx_S X 0).toNat (nx_S X 0).toNat).2) → am_WP d am_c34 17 [(2, 0), (0, i)] ([(0, v)] ++ []) M2 Q := by
      intro M2 v F2 ev
      rw [ev]
      exact h_34_17 (nm_Lay_fr hL F2 (by decide +kernel)) (hQ M2 (nm_cF F2 (by decide +kernel)) (nm_C_fr hC F2 (by decide +kernel)))
    have pairs : ∀ M2, nm_Fr nm_lmg M M2 → (∀ m, 0 ≤ m → m < nx_S X 0 → ∀ h, 0 < h → h ≤ 8 → am_gt M2 22 (48 * m + h - 1) = nm_mk (nx_S X) (nx_W X) (nm_lwf (nx_S X) (nx_D X)) m 0 h) → am_WP (d - 1) am_c78 31 [(2, 20), (0, i), (0, 0), (0, 0), (9, 0)] [] M2 (fun r M' => am_WP d am_c34 17 [(2, 0), (0, i)] (r ++ []) M' Q) := by
      intro M2 F2 g2
      have C2 := nm_C_fr hC F2 (by decide +kernel)
      have hL2 := nm_C_L C2
      have e0 : am_gt M2 1 0 = nx_S X 0 := nm_s0 C2.1.2.1
      have alike : ∀ (m o : Int) (Q' : List am_V → am_M → Prop), 0 ≤ m → m < nx_S X 0 → 0 ≤ o → o < nx_S X 0 → (al m o = true → Q' [(0, 1)] M2) → (al m o = false → Q' [(0, 0)] M2) → am_CL (d - 1 - 1) 79 [(2, 20), (0, m), (0, o)] M2 Q' := by
        intro m o Q' m0 m1 b0 b1 h1 h0
        rw [← hal] at h1 h0
        refine h_79_0 hL2 ?_
        have key : ∀ k : Nat, k ≤ 8 → nm_aln (nx_S X) (nx_W X) (nm_lwf (nx_S X) (nx_D X)) m o k = true → am_WP (d - 1 - 1) am_c79 2 [(2, 20), (0, m), (0, o), (0, (k : Int) + 1)] [] M2 Q' := by
          refine nm_dn ?_
          intro k hk ih hc
          refine h_79_2 hL2 ⟨fun h => h1 (by rw [show k = 8 by omega] at hc; exact hc), fun h => ⟨by omega, nmc_80 hL2 m0 (by omega) (by decide) (by decide) (by omega) (by omega) (h_79_18 hL2 ⟨by omega, by omega, by omega, nmc_80 hL2 b0 (by omega) (by decide) (by decide) (by omega) (by omega) (h_79_29 hL2 ⟨by omega, by omega, ?_⟩)⟩)⟩⟩
          rw [show 48 * m + 8 * 0 + ((k : Int) + 1) - 1 = 48 * m + ((k : Int) + 1) - 1 by omega, show 48 * o + 8 * 0 + ((k : Int) + 1) - 1 = 48 * o + ((k : Int) + 1) - 1 by omega, g2 m m0 m1 _ (by omega) (by omega), g2 o b0 b1 _ (by omega) (by omega), am_w_id (x := (k : Int) + 1 + 1) (by omega) (by omega)]
          refine ⟨fun he => ?_, fun he => h0 ?_⟩
          · have := ih (by omega) (by show (nm_aln _ _ _ m o k && decide _) = true; rw [hc, Bool.true_and]; exact decide_eq_true he)
            rw [show ((k + 1 : Nat) : Int) = (k : Int) + 1 by omega] at this
            exact this
          · have : nm_aln (nx_S X) (nx_W X) (nm_lwf (nx_S X) (nx_D X)) m o (k + 1) = false := by show (nm_aln _ _ _ m o k && decide _) = false; rw [hc, Bool.true_and]; exact decide_eq_false he
            have h8 := nm_aln_mono this (8 - (k + 1))
            rw [show k + 1 + (8 - (k + 1)) = 8 by omega] at h8
            exact h8
        exact key 0 (Nat.zero_le _) rfl
      have outer : ∀ m : Nat, m ≤ (nx_S X 0).toNat → ∀ l4, (0 ≤ i → (nm_tout al i (nx_S X 0).toNat m).1 ≤ i ∧ (nm_tout al i (nx_S X 0).toNat m).2 = -1) → am_WP (d - 1) am_c78 31 [(2, 20), (0, i), (0, (nm_tout al i (nx_S X 0).toNat m).1), (0, (m : Int)), l4] [] M2 (fun r M' => am_WP d am_c34 17 [(2, 0), (0, i)] (r ++ []) M' Q) := by
        refine nm_dn ?_
        intro m hm ih l4 hinv
        have bo := nm_tout_in (al := al) (i := i) (n := (nx_S X 0).toNat) (by omega) m hm
        refine h_78_31 hL2 ?_
        rw [e0]
        refine ⟨fun h => ?_, fun h => ?_⟩
        · have hme : m = (nx_S X 0).toNat := by omega
          subst hme
          refine ⟨fun h1 => fin M2 _ F2 ?_, fun h1 => fin M2 _ F2 ?_⟩
          · rw [if_neg h1]; exact (hinv (by omega)).2.symm
          · rw [if_pos (by omega)]
        · rw [nm_wk (by omega)]
          have inner : ∀ k : Nat, k ≤ (nx_S X 0).toNat - 1 - m → (0 ≤ i → (nm_tin al i m k (nm_tout al i (nx_S X 0).toNat m)).1 ≤ i ∧ (nm_tin al i m k (nm_tout al i (nx_S X 0).toNat m)).2 = -1) → am_WP (d - 1) am_c78 47 [(2, 20), (0, i), (0, (nm_tin al i m k (nm_tout al i (nx_S X 0).toNat m)).1), (0, (m : Int)), (0, (m : Int) + 1 + (k : Int))] [] M2 (fun r M' => am_WP d am_c34 17 [(2, 0), (0, i)] (r ++ []) M' Q) := by
            refine nm_dn ?_
            intro k hk ihk hinv2
            have bi := nm_tin_in (al := al) (i := i) (m := m) ⟨bo.1, bo.2.1⟩ k
            refine h_78_47 hL2 ?_
            rw [e0]
            refine ⟨fun h2 => ?_, fun h2 => ⟨by omega, alike _ _ _ (by omega) (by omega) (by omega) (by omega) (fun ha => ?_) (fun ha => ?_)⟩⟩
            · have hke : k = (nx_S X 0).toNat - 1 - m := by omega
              subst hke
              rw [nm_wk (by omega)]
              exact ih (by omega) _ hinv2
            · have es : nm_tin al i m (k + 1) (nm_tout al i (nx_S X 0).toNat m) = ((nm_tin al i m k (nm_tout al i (nx_S X 0).toNat m)).1 + 1, if (nm_tin al i m k (nm_tout al i (nx_S X 0).toNat m)).1 = i then 10 * (m : Int) + ((m : Int) + 1 + (k : Int)) else (nm_tin al i m k (nm_tout al i (nx_S X 0).toNat m)).2) := by
                show nm_tst al i _ _ _ = _
                unfold nm_tst; rw [if_pos ha]
              refine h_78_66 hL2 ⟨fun h => absurd h (by decide), fun _ => ⟨fun hne => ?_, fun hne => ?_⟩⟩
              · rw [am_w_id (x := _ + 1) (by omega) (by omega), am_w_id (x := (m : Int) + 1 + (k : Int) + 1) (by omega) (by omega)]
                have := ihk (by omega)
                rw [es, if_neg hne] at this
                simp only at this
                rw [show (m : Int) + 1 + ((k + 1 : Nat) : Int) = (m : Int) + 1 + (k : Int) + 1 by omega] at this
                exact this (fun h0 => ⟨by have := (hinv2 h0).1; omega, (hinv2 h0).2⟩)
              · have he : (nm_tin al i m k (nm_tout al i (nx_S X 0).toNat m)).1 = i := by omega
                rw [am_w_id (x := (m : Int) * 10) (by omega) (by omega), am_w_id (by omega) (by omega)]
                refine fin M2 _ F2 ?_
                rw [if_pos he] at es
                have k1 := nm_tin_keep (al := al) (i := i) (m := m) (k := k + 1) (st := nm_tout al i (nx_S X 0).toNat m) (by rw [es]; simp only; omega) ((nx_S X 0).toNat - 1 - m - (k + 1))
                rw [show k + 1 + ((nx_S X 0).toNat - 1 - m - (k + 1)) = (nx_S X 0).toNat - 1 - m by omega] at k1
                have k2 := nm_tout_keep (al := al) (i := i) (n := (nx_S X 0).toNat) (m := m + 1) k1.1 ((nx_S X 0).toNat - (m + 1))
                rw [show m + 1 + ((nx_S X 0).toNat - (m + 1)) = (nx_S X 0).toNat by omega] at k2
                rw [if_neg (by omega), k2.2]
                show _ = (nm_tin al i m ((nx_S X 0).toNat - 1 - m) _).2
                rw [k1.2, es]
                simp only
                omega
            · have es : nm_tin al i m (k + 1) (nm_tout al i (nx_S X 0).toNat m) = nm_tin al i m k (nm_tout al i (nx_S X 0).toNat m) := by
                show nm_tst al i _ _ _ = _
                unfold nm_tst; rw [ha]; rfl
              refine h_78_66 hL2 ⟨fun _ => ?_, fun h => absurd rfl h⟩
              rw [am_w_id (x := (m : Int) + 1 + (k : Int) + 1) (by omega) (by omega)]
              have := ihk (by omega)
              rw [es, show (m : Int) + 1 + ((k + 1 : Nat) : Int) = (m : Int) + 1 + (k : Int) + 1 by omega] at this
              exact this hinv2
          have := inner 0 (Nat.zero_le _) hinv
          rw [show (m : Int) + 1 + ((0 : Nat) : Int) = ((m + 1 : Nat) : Int) by omega] at this
          exact this
      exact outer 0 (Nat.zero_le _) _ (fun h => ⟨h, rfl⟩)
    have lay : ∀ k : Nat, k ≤ (nx_S X 0).toNat → ∀ M2, nm_Fr nm_lmg M M2 → (∀ m, 0 ≤ m → m < (k : Int) → ∀ h, 0 < h → h ≤ 8 → am_gt M2 22 (48 * m + h - 1) = nm_mk (nx_S X) (nx_W X) (nm_lwf (nx_S X) (nx_D X)) m 0 h) → am_WP (d - 1) am_c78 2 [(2, 20), (0, i), (0, (k : Int)), (9, 0), (9, 0)] [] M2 (fun r M' => am_WP d am_c34 17 [(2, 0), (0, i)] (r ++ []) M' Q) := by
      refine nm_dn ?_
      intro k hk ih M2 F2 g2
      have C2 := nm_C_fr hC F2 (by decide +kernel)
      have hL2 := nm_C_L C2
      refine h_78_2 hL2 ?_
      rw [nm_s0 C2.1.2.1]
      refine ⟨fun h => pairs M2 F2 (fun m a b => g2 m a (by omega)), fun h => ⟨by omega, nmc_82 (by omega) C2 hok (by omega) (by omega) (by decide) (by decide) (by decide) (by decide) (fun M3 F3 a3 b3 => ?_)⟩⟩
      refine h_78_21 (nm_Lay_fr hL2 F3 (by decide +kernel)) ?_
      rw [nm_wk (by omega)]
      refine ih (by omega) M3 (nm_Fr_trans F2 F3) (fun m a b h x y => ?_)
      by_cases hm : m = (k : Int)
      · subst hm
        have := a3 h x y
        rw [show 48 * (k : Int) + 8 * 0 + h - 1 = 48 * (k : Int) + h - 1 by omega] at this
        exact this
      · rw [b3 _ (by omega)]; exact g2 m a (by omega) h x y
    exact lay 0 (Nat.zero_le _) M (nm_Fg_refl _ _) (fun m a b => absurd b (by omega))
  · have := hQ M nm_cR hC
    rw [if_neg (by omega), (nm_tout_in (al := al) (i := i) (n := (nx_S X 0).toNat) (by omega) _ (Nat.le_refl _)).2.2 (by omega)] at this
    exact this
/-- the reference -/
theorem nmm_245 {d : Nat} {a b : Int} {X : nm_X} {M : am_M} {Q : List am_V → am_M → Prop} (hd : 8 ≤ d) (hok : nm_ok X) (hM : nm_M M X) (a0 : 0 ≤ a) (a1 : a < nx_S X 0) (b0 : 0 ≤ b) (b1 : b < nx_S X 0) (hQ : ∀ M', nm_Fr nm_tg M M' → Q [(0, if nm_aln (nx_S X) (nx_W X) (nm_lwf (nx_S X) (nx_D X)) a b 8 then 1 else 0)] M') : am_CL d 245 [(2, 214), (0, a), (0, b)] M Q := by
  have oW : nm_okW (nx_S X 0) (nx_W X) := hok.1.2.2.1
  refine h_245_0 (nm_M_L hM) ?_
  have key : ∀ k : Nat, k ≤ 8 → ∀ M1, nm_Fr nm_tg M M1 → am_WP d am_c245 5 [(2, 214), (0, a), (0, b), (0, if nm_aln (nx_S X) (nx_W X) (nm_lwf (nx_S X) (nx_D X)) a b k then 1 else 0), (0, (k : Int) + 1)] [] M1 Q := by
    refine nm_dn ?_
    intro k hk ih M1 F1
    have C1 := nm_M_tg hok hM F1
    have hL1 := nm_M_L C1
    have e : nm_aln (nx_S X) (nx_W X) (nm_lwf (nx_S X) (nx_D X)) a b (k + 1) = (nm_aln (nx_S X) (nx_W X) (nm_lwf (nx_S X) (nx_D X)) a b k && decide (nm_mk (nx_S X) (nx_W X) (nm_lwf (nx_S X) (nx_D X)) a 0 ((k : Int) + 1) = nm_mk (nx_S X) (nx_W X) (nm_lwf (nx_S X) (nx_D X)) b 0 ((k : Int) + 1))) := rfl
    have nx : ∀ M2, nm_Fr nm_tg M M2 → k < 8 → am_WP d am_c245 5 [(2, 214), (0, a), (0, b), (0, if nm_aln (nx_S X) (nx_W X) (nm_lwf (nx_S X) (nx_D X)) a b (k + 1) then 1 else 0), (0, am_w ((k : Int) + 1 + 1))] [] M2 Q := by
      intro M2 F2 hk8
      have := ih hk8 M2 F2
      rw [show ((k + 1 : Nat) : Int) + 1 = (k : Int) + 1 + 1 by omega] at this
      rw [am_w_id (by omega) (by omega)]; exact this
    refine h_245_5 hL1 ⟨fun h => ?_, fun h => ?_⟩
    · have hk8 : k = 8 := by omega
      subst hk8
      exact ⟨by split <;> omega, hQ M1 F1⟩
    · cases hc : nm_aln (nx_S X) (nx_W X) (nm_lwf (nx_S X) (nx_D X)) a b k
      · have := nx M1 F1 (by omega)
        rw [e, hc, Bool.false_and] at this
        exact ⟨fun _ => this, fun h => absurd rfl h⟩
      · refine ⟨fun h => absurd h (by decide), fun _ => ⟨by omega, nm_m208 (by omega) C1.1 oW a0 a1 (by omega) (by omega) (fun M2 F2 => ?_)⟩⟩
        have F02 := nm_Fr_trans F1 F2
        have C2 := nm_M_tg hok hM F02
        refine h_245_24 (nm_M_L C2) ⟨by omega, nm_m208 (by omega) C2.1 oW b0 b1 (by omega) (by omega) (fun M3 F3 => ?_)⟩
        have F03 := nm_Fr_trans F02 F3
        have hp : (0 : Int) < (k : Int) + 1 := by omega
        simp only [if_pos hp]
        have := nx M3 F03 (by omega)
        rw [e, hc, Bool.true_and] at this
        refine h_245_32 (nm_Lay_fr (nm_M_L hM) F03 (by decide +kernel)) ⟨fun hne => ?_, fun hne => ?_⟩
        · rw [decide_eq_false hne] at this; exact this
        · rw [decide_eq_true (by omega)] at this; exact this
  exact key 0 (Nat.zero_le _) M (nm_Fg_refl _ _)
theorem nmq_34 {d : Nat} {i : Int} {X : nm_X} {M : am_M} {Q : List am_V → am_M → Prop} (hd : 10 ≤ d) (hok : nm_ok X) (hM : nm_M M X) (hQ : nm_KM (sp_34 X i).1 [(0, (sp_34 X i).2)] M Q) : am_CL d 246 [(2, 214), (0, i)] M Q := by
  have F0 := nm_m0F (M := M)
  have hM0 := nm_m0 hok hM
  have hM1 := hM0
  have hL := nm_M_L hM0
  refine h_246_0 (nm_M_L hM) ?_
  generalize am_st M 214 0 0 = M0 at F0 hM0 hM1 hL ⊢
  obtain ⟨m1, m2, m3, m4, m5, m6⟩ := hM1
  have m1' := m1
  obtain ⟨a1, hS, hW, hO, hX, a6⟩ := m1
  have o0 := hO.1
  unfold sp_34 at hQ
  simp only at hQ
  generalize hal : (fun a b => nm_aln (nx_S X) (nx_W X) (nm_lwf (nx_S X) (nx_D X)) a b 8) = al at hQ
  have outer : ∀ m : Nat, m ≤ (nx_S X 0).toNat → ∀ M1 l5, nm_Fr nm_tg M0 M1 → am_WP d am_c246 12 [(2, 214), (0, i), (0, (nm_tout al i (nx_S X 0).toNat m).1), (0, (nm_tout al i (nx_S X 0).toNat m).2), (0, (m : Int)), l5] [] M1 Q := by
    refine nm_dn ?_
    intro m hm ih M1 l5 F1
    have C1 := nm_M_tg hok hM0 F1
    have bo := nm_tout_in (al := al) (i := i) (n := (nx_S X 0).toNat) (by omega) m hm
    refine h_246_12 (nm_M_L C1) ?_
    rw [C1.1.2.1 0 (by unfold nm_si; omega)]
    refine ⟨fun h => ?_, fun h => ?_⟩
    · have hme : m = (nx_S X 0).toNat := by omega
      subst hme
      have := hQ M1 (nm_Fr_trans F0 (nm_mF F1 (by decide +kernel))) C1
      refine ⟨fun h1 => ?_, fun h1 => ?_⟩
      · rw [if_neg h1] at this; exact this
      · rw [if_pos (by omega)] at this; exact this
    · rw [nm_wk (by omega)]
      have inner : ∀ k : Nat, k ≤ (nx_S X 0).toNat - 1 - m → ∀ M2, nm_Fr nm_tg M0 M2 → am_WP d am_c246 29 [(2, 214), (0, i), (0, (nm_tin al i m k (nm_tout al i (nx_S X 0).toNat m)).1), (0, (nm_tin al i m k (nm_tout al i (nx_S X 0).toNat m)).2), (0, (m : Int)), (0, (m : Int) + 1 + (k : Int))] [] M2 Q := by
        refine nm_dn ?_
        intro k hk ihk M2 F2
        have C2 := nm_M_tg hok hM0 F2
        have bi := nm_tin_in (al := al) (i := i) (m := m) ⟨bo.1, bo.2.1⟩ k
        refine h_246_29 (nm_M_L C2) ?_
        rw [C2.1.2.1 0 (by unfold nm_si; omega)]
        refine ⟨fun h2 => ?_, fun h2 => ⟨by omega, nmm_245 (by omega) hok C2 (by omega) (by omega) (by omega) (by omega) (fun M3 F3 => ?_)⟩⟩
        · have hke : k = (nx_S X 0).toNat - 1 - m := by omega
          subst hke
          rw [nm_wk (by omega)]
          exact ih (by omega) M2 _ F2
        · have F03 := nm_Fr_trans F2 F3
          have hL3 := nm_Lay_fr hL F03 (by decide +kernel)
          have := ihk (by omega) M3 F03
          rw [show nm_tin al i m (k + 1) (nm_tout al i (nx_S X 0).toNat m) = nm_tst al i (nm_tin al i m k (nm_tout al i (nx_S X 0).toNat m)) (m : Int) ((m : Int) + 1 + (k : Int)) from rfl, show (m : Int) + 1 + ((k + 1 : Nat) : Int) = (m : Int) + 1 + (k : Int) + 1 by omega] at this
          have ea : nm_aln (nx_S X) (nx_W X) (nm_lwf (nx_S X) (nx_D X)) (m : Int) ((m : Int) + 1 + (k : Int)) 8 = al (m : Int) ((m : Int) + 1 + (k : Int)) := by rw [← hal]
          rw [ea]
          unfold nm_tst at this
          refine h_246_48 hL3 ?_
          rw [am_w_id (x := (m : Int) + 1 + (k : Int) + 1) (by omega) (by omega), am_w_id (x := _ + 1) (by omega) (by omega), am_w_id (x := 10 * (m : Int)) (by omega) (by omega), am_w_id (x := 10 * (m : Int) + _) (by omega) (by omega)]
          cases ha : al (m : Int) ((m : Int) + 1 + (k : Int))
          · rw [ha] at this
            exact ⟨fun _ => this, fun h => absurd rfl h⟩
          · rw [ha] at this
            refine ⟨fun h => absurd h (by decide), fun _ => ⟨fun hne => ?_, fun hne => ?_⟩⟩
            · simp only [if_true, if_neg hne] at this; exact this
            · simp only [if_true, if_pos (show (nm_tin al i m k (nm_tout al i (nx_S X 0).toNat m)).1 = i by omega)] at this; exact this
      have := inner 0 (Nat.zero_le _) M1 F1
      rw [show (m : Int) + 1 + ((0 : Nat) : Int) = ((m + 1 : Nat) : Int) by omega] at this
      exact this
  exact outer 0 (Nat.zero_le _) M0 _ (nm_Fg_refl _ _)
