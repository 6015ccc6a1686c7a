/-! THE READER, PURE: what a text's sums and tests tell -/
abbrev rd_F : Type := (Int → Int) → Option Int
/-- where it is wrong, or what it tells, where it goes on, how many parts there are -/
abbrev rd_R : Type := Except Int (rd_F × Int × Int)
def rd_wd (o : Int) (x : List Int) : Int := if o = 0 then rd_lw x else rd_ow x
def rd_leaf (T : tk_T) (o s n : Int) : rd_R :=
  if (rd_wd o (tk_x T s) = -1 ∧ ¬ tk_n T s 0 1000) ∨ 50 ≤ n then .error (tk_b T s)
  else if rd_wd o (tk_x T s) = -1 then .ok (fun _ => some (tk_w T s), tk_e T s, n + 1)
  else if o = 0 ∨ rd_wd o (tk_x T s) < 4 then .ok (fun e => some (e (rd_wd o (tk_x T s))), tk_e T s, n + 1)
  else if tk_n T (tk_e T s) 0 (if rd_wd o (tk_x T s) = 4 then 5 else 7) then .ok (fun e => some (e (rd_wd o (tk_x T s) + tk_w T (tk_e T s))), tk_e T (tk_e T s), n + 1)
  else .error (tk_b T (tk_e T s))
/-- what stands in brackets -/
def rd_brk (T : tk_T) (cl : List Int) (sub : Option (Int → Int → rd_R)) (s n : Int) : rd_R :=
  match sub with
  | none => .error (tk_b T s)
  | some g => match g (tk_e T s) n with
    | .error p => .error p
    | .ok (f, s1, n1) => if tk_x T s1 = cl then .ok (f, tk_e T s1, n1) else .error (tk_b T s1)
def rd_part (T : tk_T) (o : Int) (sub : Option (Int → Int → rd_R)) (s n : Int) : rd_R :=
  if tk_x T s = rd_tx 8 then rd_brk T (rd_tx 9) sub s n else rd_leaf T o s n
def rd_cl (acc : Option (Int × rd_F)) (cur : rd_F) : rd_F := match acc with
  | none => cur
  | some (op, f) => nm_bin op f cur
def rd_suml (T : tk_T) (part : Int → Int → rd_R) : Nat → Option (Int × rd_F) → rd_F → Int → Int → rd_R
  | 0, acc, cur, s, n => .ok (rd_cl acc cur, s, n)
  | m + 1, acc, cur, s, n => if rd_jn (tk_x T s) = -1 then .ok (rd_cl acc cur, s, n) else match part (tk_e T s) n with
    | .error p => .error p
    | .ok (g, s1, n1) => if rd_jn (tk_x T s) ≤ 7 then rd_suml T part m (some (rd_jn (tk_x T s), rd_cl acc cur)) g s1 n1 else rd_suml T part m acc (nm_bin (rd_jn (tk_x T s)) cur g) s1 n1
def rd_sumw (T : tk_T) (part : Int → Int → rd_R) (s n : Int) : rd_R := match part s n with
  | .error p => .error p
  | .ok (g, s1, n1) => rd_suml T part 400 none g s1 n1
def rd_sum (T : tk_T) (o : Int) : Nat → Int → Int → rd_R
  | 0 => rd_sumw T (rd_part T o none)
  | k + 1 => rd_sumw T (rd_part T o (some (rd_sum T o k)))
def rd_nots (T : tk_T) : Nat → Int → Int → Int × Int
  | 0, b, s => (b, s)
  | m + 1, b, s => if tk_x T s = rd_tx 30 then rd_nots T m (1 - b) (tk_e T s) else (b, s)
def rd_nt (b : Int) (f : rd_F) : rd_F := if b = 0 then f else nm_not f
def rd_cmp (T : tk_T) (sum : Int → Int → rd_R) (s n : Int) : rd_R := match sum s n with
  | .error p => .error p
  | .ok (f, s1, n1) => if rd_cm (tk_x T s1) = -1 then .error (tk_b T s1) else match sum (tk_e T s1) n1 with
    | .error p => .error p
    | .ok (g, s2, n2) => .ok (nm_bin (rd_cm (tk_x T s1)) f g, s2, n2)
def rd_pl1 (T : tk_T) (sum : Int → Int → rd_R) (sub : Option (Int → Int → rd_R)) (s n : Int) : rd_R :=
  if tk_x T s = rd_tx 31 then rd_brk T (rd_tx 32) sub s n else rd_cmp T sum s n
def rd_pln (T : tk_T) (sum : Int → Int → rd_R) (sub : Option (Int → Int → rd_R)) (s n : Int) : rd_R := match rd_pl1 T sum sub (rd_nots T 400 0 s).2 n with
  | .error p => .error p
  | .ok (f, s1, n1) => .ok (rd_nt (rd_nots T 400 0 s).1 f, s1, n1)
def rd_ca (A : Option rd_F) (cur : rd_F) : rd_F := match A with
  | none => cur
  | some f => nm_jmp 0 f cur
def rd_co (A : Option rd_F) (cur : rd_F) : rd_F := match A with
  | none => cur
  | some f => nm_jmp 1 f cur
def rd_testl (T : tk_T) (pl : Int → Int → rd_R) : Nat → Option rd_F → Option rd_F → rd_F → Int → Int → rd_R
  | 0, oA, aA, cur, s, n => .ok (rd_co oA (rd_ca aA cur), s, n)
  | m + 1, oA, aA, cur, s, n =>
    if tk_x T s = rd_tx 36 then (match pl (tk_e T s) n with
      | .error p => .error p
      | .ok (g, s1, n1) => rd_testl T pl m oA (some (rd_ca aA cur)) g s1 n1)
    else if tk_x T s = rd_tx 37 then (match pl (tk_e T s) n with
      | .error p => .error p
      | .ok (g, s1, n1) => rd_testl T pl m (some (rd_co oA (rd_ca aA cur))) none g s1 n1)
    else .ok (rd_co oA (rd_ca aA cur), s, n)
def rd_testw (T : tk_T) (pl : Int → Int → rd_R) (s n : Int) : rd_R := match pl s n with
  | .error p => .error p
  | .ok (g, s1, n1) => rd_testl T pl 400 none none g s1 n1
def rd_test (T : tk_T) (o : Int) : Nat → Int → Int → rd_R
  | 0 => rd_testw T (rd_pln T (rd_sum T o 0) none)
  | k + 1 => rd_testw T (rd_pln T (rd_sum T o (k + 1)) (some (rd_test T o k)))
/-- what is read goes on, and the parts are counted -/
def rd_gd (T : tk_T) (g : Int → Int → rd_R) : Prop := ∀ s n f s1 n1, 0 ≤ s → s ≤ T.2 → 0 ≤ n → n ≤ 50 → g s n = .ok (f, s1, n1) → s < s1 ∧ s1 ≤ T.2 ∧ 0 ≤ n1 ∧ n1 ≤ 50
theorem rd_tx_ne (k : Nat) (hk : k < 39) : rd_tx k ≠ [] := by
  have : ∀ k, k < 39 → rd_tx k ≠ [] := by decide +kernel
  exact this k hk
theorem tk_advx {T : tk_T} {s : Int} (k : Nat) (hk : k < 39) (h : s ≤ T.2) (hx : tk_x T s = rd_tx k) : s < tk_e T s := tk_adv h (fun e => rd_tx_ne k hk (hx.symm.trans e))
theorem rd_lw_n (x : List Int) : rd_lw x = -1 ∨ (x ≠ [] ∧ 0 ≤ rd_lw x ∧ rd_lw x < 8) := by
  by_cases hx : x = []
  · subst hx; decide +kernel
  · rcases rd_at_lw x with h | h | h | h | h | h | h | h | h
    · exact .inl h.1
    all_goals exact .inr ⟨hx, by omega, by omega⟩
theorem rd_ow_n (x : List Int) : rd_ow x = -1 ∨ (x ≠ [] ∧ 0 ≤ rd_ow x ∧ (rd_ow x ≤ 4 ∨ rd_ow x = 10)) := by
  by_cases hx : x = []
  · subst hx; decide +kernel
  · rcases rd_at_ow x with h | h | h | h | h | h | h
    · exact .inl h.1
    all_goals exact .inr ⟨hx, by omega, by omega⟩
theorem rd_wd_n (o : Int) (x : List Int) : rd_wd o x = -1 ∨ (x ≠ [] ∧ 0 ≤ rd_wd o x ∧ ((o = 0 ∧ rd_wd o x < 8) ∨ (o ≠ 0 ∧ (rd_wd o x ≤ 4 ∨ rd_wd o x = 10)))) := by
  unfold rd_wd
  by_cases ho : o = 0
  · rw [if_pos ho]
    rcases rd_lw_n x with h | ⟨h1, h2, h3⟩
    · exact .inl h
    · exact .inr ⟨h1, h2, .inl ⟨ho, h3⟩⟩
  · rw [if_neg ho]
    rcases rd_ow_n x with h | ⟨h1, h2, h3⟩
    · exact .inl h
    · exact .inr ⟨h1, h2, .inr ⟨ho, h3⟩⟩
theorem rd_jn_n (x : List Int) : rd_jn x = -1 ∨ (x ≠ [] ∧ 6 ≤ rd_jn x ∧ rd_jn x ≤ 10) := by
  by_cases e0 : x = rd_tx 22
  · subst e0; decide +kernel
  by_cases e1 : x = rd_tx 23
  · subst e1; decide +kernel
  by_cases e2 : x = rd_tx 24
  · subst e2; decide +kernel
  by_cases e3 : x = rd_tx 25
  · subst e3; decide +kernel
  by_cases e4 : x = rd_tx 26
  · subst e4; decide +kernel
  refine .inl ?_
  unfold rd_jn; simp only [e0, e1, e2, e3, e4, if_false]
theorem rd_cm_n (x : List Int) : rd_cm x = -1 ∨ (x ≠ [] ∧ 11 ≤ rd_cm x ∧ rd_cm x ≤ 13) := by
  by_cases e0 : x = rd_tx 33
  · subst e0; decide +kernel
  by_cases e1 : x = rd_tx 34
  · subst e1; decide +kernel
  by_cases e2 : x = rd_tx 35
  · subst e2; decide +kernel
  refine .inl ?_
  unfold rd_cm; simp only [e0, e1, e2, if_false]
theorem rd_leaf_gd (T : tk_T) (o : Int) : rd_gd T (rd_leaf T o) := by
  intro s n f s1 n1 h0 h1 n0 n5 h
  have he := tk_se h1
  have he2 := tk_se he.2
  unfold rd_leaf at h
  split at h
  · cases h
  · rename_i hc
    have hn : n < 50 := by omega
    have adv : s < tk_e T s := by
      rcases rd_wd_n o (tk_x T s) with hw | hw
      · exact tk_adn (lo := 0) (hi := 1000) h1 (by
          by_cases hh : tk_n T s 0 1000
          · exact hh
          · exact absurd (.inl ⟨hw, hh⟩) hc)
      · exact tk_adv h1 hw.1
    split at h
    · cases h; exact ⟨adv, he.2, by omega, by omega⟩
    · split at h
      · cases h; exact ⟨adv, he.2, by omega, by omega⟩
      · by_cases hq : tk_n T (tk_e T s) 0 (if rd_wd o (tk_x T s) = 4 then 5 else 7)
        · rw [if_pos hq] at h; cases h; exact ⟨by omega, he2.2, by omega, by omega⟩
        · rw [if_neg hq] at h; cases h
theorem rd_brk_gd {T : tk_T} {c : List Int} {sub : Option (Int → Int → rd_R)} (hs : ∀ g, sub = some g → rd_gd T g) : rd_gd T (rd_brk T c sub) := by
  intro s n f s1 n1 h0 h1 n0 n5 h
  have he := tk_se h1
  unfold rd_brk at h
  cases sub with
  | none => cases h
  | some g =>
    simp only at h
    cases hg : g (tk_e T s) n with
    | error p => rw [hg] at h; cases h
    | ok r =>
      obtain ⟨f2, s2, n2⟩ := r
      rw [hg] at h
      have := hs g rfl _ _ _ _ _ (by omega) he.2 n0 n5 hg
      have he2 := tk_se this.2.1
      simp only at h
      split at h
      · cases h; exact ⟨by omega, he2.2, by omega, by omega⟩
      · cases h
theorem rd_part_gd {T : tk_T} {o : Int} {sub : Option (Int → Int → rd_R)} (hs : ∀ g, sub = some g → rd_gd T g) : rd_gd T (rd_part T o sub) := by
  intro s n f s1 n1 h0 h1 n0 n5 h
  unfold rd_part at h
  split at h
  · exact rd_brk_gd hs s n f s1 n1 h0 h1 n0 n5 h
  · exact rd_leaf_gd T o s n f s1 n1 h0 h1 n0 n5 h
theorem rd_suml_gd {T : tk_T} {part : Int → Int → rd_R} (hp : rd_gd T part) : ∀ (m : Nat) (acc : Option (Int × rd_F)) (cur : rd_F) (s n : Int) (f : rd_F) (s1 n1 : Int), 0 ≤ s → s ≤ T.2 → 0 ≤ n → n ≤ 50 → rd_suml T part m acc cur s n = .ok (f, s1, n1) → s ≤ s1 ∧ s1 ≤ T.2 ∧ 0 ≤ n1 ∧ n1 ≤ 50 := by
  intro m
  induction m with
  | zero =>
    intro acc cur s n f s1 n1 h0 h1 n0 n5 h
    simp only [rd_suml] at h; cases h; exact ⟨Int.le_refl _, h1, n0, n5⟩
  | succ m ih =>
    intro acc cur s n f s1 n1 h0 h1 n0 n5 h
    have he := tk_se h1
    simp only [rd_suml] at h
    split at h
    · cases h; exact ⟨Int.le_refl _, h1, n0, n5⟩
    · cases hg : part (tk_e T s) n with
      | error p => rw [hg] at h; cases h
      | ok r =>
        obtain ⟨g, s2, n2⟩ := r
        rw [hg] at h
        have a := hp _ _ _ _ _ (by omega) he.2 n0 n5 hg
        simp only at h
        split at h
        · have := ih _ _ _ _ _ _ _ (by omega) a.2.1 a.2.2.1 a.2.2.2 h; omega
        · have := ih _ _ _ _ _ _ _ (by omega) a.2.1 a.2.2.1 a.2.2.2 h; omega
theorem rd_sumw_gd {T : tk_T} {part : Int → Int → rd_R} (hp : rd_gd T part) : rd_gd T (rd_sumw T part) := by
  intro s n f s1 n1 h0 h1 n0 n5 h
  unfold rd_sumw at h
  cases hg : part s n with
  | error p => rw [hg] at h; cases h
  | ok r =>
    obtain ⟨g, s2, n2⟩ := r
    rw [hg] at h
    have a := hp _ _ _ _ _ h0 h1 n0 n5 hg
    have := rd_suml_gd hp _ _ _ _ _ _ _ _ (by omega) a.2.1 a.2.2.1 a.2.2.2 h
    omega
theorem rd_sum_gd (T : tk_T) (o : Int) : ∀ k, rd_gd T (rd_sum T o k)
  | 0 => rd_sumw_gd (rd_part_gd (fun g h => by cases h))
  | k + 1 => rd_sumw_gd (rd_part_gd (fun g h => by cases h; exact rd_sum_gd T o k))
theorem rd_nots_gd {T : tk_T} : ∀ (m : Nat) (b s : Int), 0 ≤ s → s ≤ T.2 → b = 0 ∨ b = 1 → s ≤ (rd_nots T m b s).2 ∧ (rd_nots T m b s).2 ≤ T.2 ∧ ((rd_nots T m b s).1 = 0 ∨ (rd_nots T m b s).1 = 1) ∧ ((rd_nots T m b s).1 = b ∨ s < (rd_nots T m b s).2)
  | 0, b, s, h0, h1, hb => ⟨Int.le_refl _, h1, hb, .inl rfl⟩
  | m + 1, b, s, h0, h1, hb => by
    simp only [rd_nots]
    split
    · rename_i hx
      have he := tk_se h1
      have ha := tk_advx 30 (by decide) h1 hx
      obtain ⟨a1, a2, a3, a4⟩ := rd_nots_gd m (1 - b) (tk_e T s) (by omega) he.2 (by omega)
      exact ⟨by omega, a2, a3, .inr (by omega)⟩
    · exact ⟨Int.le_refl _, h1, hb, .inl rfl⟩
theorem rd_cmp_gd {T : tk_T} {sum : Int → Int → rd_R} (hp : rd_gd T sum) : rd_gd T (rd_cmp T sum) := by
  intro s n f s1 n1 h0 h1 n0 n5 h
  unfold rd_cmp at h
  cases hg : sum s n with
  | error p => rw [hg] at h; cases h
  | ok r =>
    obtain ⟨g, s2, n2⟩ := r
    rw [hg] at h
    have a := hp _ _ _ _ _ h0 h1 n0 n5 hg
    have he := tk_se a.2.1
    simp only at h
    split at h
    · cases h
    · cases hg2 : sum (tk_e T s2) n2 with
      | error p => rw [hg2] at h; cases h
      | ok r2 =>
        obtain ⟨g3, s3, n3⟩ := r2
        rw [hg2] at h
        have b := hp _ _ _ _ _ (by omega) he.2 a.2.2.1 a.2.2.2 hg2
        cases h; exact ⟨by omega, b.2.1, b.2.2⟩
theorem rd_pl1_gd {T : tk_T} {sum : Int → Int → rd_R} {sub : Option (Int → Int → rd_R)} (hp : rd_gd T sum) (hs : ∀ g, sub = some g → rd_gd T g) : rd_gd T (rd_pl1 T sum sub) := by
  intro s n f s1 n1 h0 h1 n0 n5 h
  unfold rd_pl1 at h
  split at h
  · exact rd_brk_gd hs s n f s1 n1 h0 h1 n0 n5 h
  · exact rd_cmp_gd hp s n f s1 n1 h0 h1 n0 n5 h
theorem rd_pln_gd {T : tk_T} {sum : Int → Int → rd_R} {sub : Option (Int → Int → rd_R)} (hp : rd_gd T sum) (hs : ∀ g, sub = some g → rd_gd T g) : rd_gd T (rd_pln T sum sub) := by
  intro s n f s1 n1 h0 h1 n0 n5 h
  obtain ⟨a1, a2, a3, a4⟩ := rd_nots_gd 400 0 s h0 h1 (.inl rfl)
  unfold rd_pln at h
  cases hg : rd_pl1 T sum sub (rd_nots T 400 0 s).2 n with
  | error p => rw [hg] at h; cases h
  | ok r =>
    obtain ⟨g, s2, n2⟩ := r
    rw [hg] at h
    have a := rd_pl1_gd hp hs _ _ _ _ _ (by omega) a2 n0 n5 hg
    cases h; exact ⟨by omega, a.2.1, a.2.2⟩
theorem rd_testl_gd {T : tk_T} {pl : Int → Int → rd_R} (hp : rd_gd T pl) : ∀ (m : Nat) (oA aA : Option rd_F) (cur : rd_F) (s n : Int) (f : rd_F) (s1 n1 : Int), 0 ≤ s → s ≤ T.2 → 0 ≤ n → n ≤ 50 → rd_testl T pl m oA aA cur s n = .ok (f, s1, n1) → s ≤ s1 ∧ s1 ≤ T.2 ∧ 0 ≤ n1 ∧ n1 ≤ 50 := by
  intro m
  induction m with
  | zero =>
    intro oA aA cur s n f s1 n1 h0 h1 n0 n5 h
    simp only [rd_testl] at h; cases h; exact ⟨Int.le_refl _, h1, n0, n5⟩
  | succ m ih =>
    intro oA aA cur s n f s1 n1 h0 h1 n0 n5 h
    have he := tk_se h1
    simp only [rd_testl] at h
    split at h
    · cases hg : pl (tk_e T s) n with
      | error p => rw [hg] at h; cases h
      | ok r =>
        obtain ⟨g, s2, n2⟩ := r
        rw [hg] at h
        have a := hp _ _ _ _ _ (by omega) he.2 n0 n5 hg
        have := ih _ _ _ _ _ _ _ _ (by omega) a.2.1 a.2.2.1 a.2.2.2 h; omega
    · split at h
      · cases hg : pl (tk_e T s) n with
        | error p => rw [hg] at h; cases h
        | ok r =>
          obtain ⟨g, s2, n2⟩ := r
          rw [hg] at h
          have a := hp _ _ _ _ _ (by omega) he.2 n0 n5 hg
          have := ih _ _ _ _ _ _ _ _ (by omega) a.2.1 a.2.2.1 a.2.2.2 h; omega
      · cases h; exact ⟨Int.le_refl _, h1, n0, n5⟩
theorem rd_testw_gd {T : tk_T} {pl : Int → Int → rd_R} (hp : rd_gd T pl) : rd_gd T (rd_testw T pl) := by
  intro s n f s1 n1 h0 h1 n0 n5 h
  unfold rd_testw at h
  cases hg : pl s n with
  | error p => rw [hg] at h; cases h
  | ok r =>
    obtain ⟨g, s2, n2⟩ := r
    rw [hg] at h
    have a := hp _ _ _ _ _ h0 h1 n0 n5 hg
    have := rd_testl_gd hp _ _ _ _ _ _ _ _ _ (by omega) a.2.1 a.2.2.1 a.2.2.2 h
    omega
theorem rd_test_gd (T : tk_T) (o : Int) : ∀ k, rd_gd T (rd_test T o k)
  | 0 => rd_testw_gd (rd_pln_gd (rd_sum_gd T o 0) (fun g h => by cases h))
  | k + 1 => rd_testw_gd (rd_pln_gd (rd_sum_gd T o (k + 1)) (fun g h => by cases h; exact rd_test_gd T o k))
/-- tests tell 0 or 1 -/
def rd_01 (g : Int → Int → rd_R) : Prop := ∀ s n f s1 n1, g s n = .ok (f, s1, n1) → nm_b01 f
theorem nm_b01_cm {op : Int} {f g : rd_F} (h : 11 ≤ op) : nm_b01 (nm_bin op f g) := by
  intro e v hv
  unfold nm_bin at hv
  split at hv
  · cases hv
  · split at hv
    · cases hv
    · unfold nm_jn at hv
      rw [if_neg (by omega)] at hv
      split at hv
      · cases hv
      · cases hv
        unfold nm_jv
        rw [if_neg (by omega), if_neg (by omega), if_neg (by omega), if_neg (by omega), if_neg (by omega)]
        repeat' split
        all_goals omega
theorem nm_b01_not {f : rd_F} (h : nm_b01 f) : nm_b01 (nm_not f) := by
  intro e v hv
  unfold nm_not at hv
  split at hv
  · cases hv
  · rename_i x hx
    cases hv
    have := h e x hx
    omega
theorem nm_b01_jmp {z : Int} {f g : rd_F} (hf : nm_b01 f) (hg : nm_b01 g) : nm_b01 (nm_jmp z f g) := by
  intro e v hv
  unfold nm_jmp at hv
  split at hv
  · cases hv
  · rename_i x hx
    split at hv
    · cases hv; exact hf e _ hx
    · exact hg e v hv
theorem nm_not2 {f : rd_F} : nm_not (nm_not f) = f := by
  funext e
  unfold nm_not
  cases f e with
  | none => rfl
  | some x => simp only; congr 1; omega
theorem rd_brk_01 {T : tk_T} {c : List Int} {sub : Option (Int → Int → rd_R)} (hs : ∀ g, sub = some g → rd_01 g) : rd_01 (rd_brk T c sub) := by
  intro s n f s1 n1 h
  unfold rd_brk at h
  cases sub with
  | none => cases h
  | some g =>
    simp only at h
    cases hg : g (tk_e T s) n with
    | error p => rw [hg] at h; cases h
    | ok r =>
      obtain ⟨f2, s2, n2⟩ := r
      rw [hg] at h
      simp only at h
      split at h
      · cases h; exact hs g rfl _ _ _ _ _ hg
      · cases h
theorem rd_cmp_01 {T : tk_T} {sum : Int → Int → rd_R} : rd_01 (rd_cmp T sum) := by
  intro s n f s1 n1 h
  unfold rd_cmp at h
  cases hg : sum s n with
  | error p => rw [hg] at h; cases h
  | ok r =>
    obtain ⟨g, s2, n2⟩ := r
    rw [hg] at h
    simp only at h
    split at h
    · cases h
    · rename_i hc
      cases hg2 : sum (tk_e T s2) n2 with
      | error p => rw [hg2] at h; cases h
      | ok r2 =>
        obtain ⟨g3, s3, n3⟩ := r2
        rw [hg2] at h
        cases h
        rcases rd_cm_n (tk_x T s2) with e | e
        · exact absurd e hc
        · exact nm_b01_cm e.2.1
theorem rd_pl1_01 {T : tk_T} {sum : Int → Int → rd_R} {sub : Option (Int → Int → rd_R)} (hs : ∀ g, sub = some g → rd_01 g) : rd_01 (rd_pl1 T sum sub) := by
  intro s n f s1 n1 h
  unfold rd_pl1 at h
  split at h
  · exact rd_brk_01 hs _ _ _ _ _ h
  · exact rd_cmp_01 _ _ _ _ _ h
theorem rd_nt_01 {b : Int} {f : rd_F} (h : nm_b01 f) : nm_b01 (rd_nt b f) := by
  unfold rd_nt; split
  · exact h
  · exact nm_b01_not h
theorem rd_pln_01 {T : tk_T} {sum : Int → Int → rd_R} {sub : Option (Int → Int → rd_R)} (hs : ∀ g, sub = some g → rd_01 g) : rd_01 (rd_pln T sum sub) := by
  intro s n f s1 n1 h
  unfold rd_pln at h
  cases hg : rd_pl1 T sum sub (rd_nots T 400 0 s).2 n with
  | error p => rw [hg] at h; cases h
  | ok r =>
    obtain ⟨g, s2, n2⟩ := r
    rw [hg] at h
    cases h; exact rd_nt_01 (rd_pl1_01 hs _ _ _ _ _ hg)
theorem rd_ca_01 {A : Option rd_F} {cur : rd_F} (hA : ∀ f, A = some f → nm_b01 f) (hc : nm_b01 cur) : nm_b01 (rd_ca A cur) := by
  cases A with
  | none => exact hc
  | some f => exact nm_b01_jmp (hA f rfl) hc
theorem rd_co_01 {A : Option rd_F} {cur : rd_F} (hA : ∀ f, A = some f → nm_b01 f) (hc : nm_b01 cur) : nm_b01 (rd_co A cur) := by
  cases A with
  | none => exact hc
  | some f => exact nm_b01_jmp (hA f rfl) hc
theorem rd_testl_01 {T : tk_T} {pl : Int → Int → rd_R} (hp : rd_01 pl) : ∀ (m : Nat) (oA aA : Option rd_F) (cur : rd_F) (s n : Int) (f : rd_F) (s1 n1 : Int), (∀ f, oA = some f → nm_b01 f) → (∀ f, aA = some f → nm_b01 f) → nm_b01 cur → rd_testl T pl m oA aA cur s n = .ok (f, s1, n1) → nm_b01 f := by
  intro m
  induction m with
  | zero =>
    intro oA aA cur s n f s1 n1 h1 h2 h3 h
    simp only [rd_testl] at h; cases h; exact rd_co_01 h1 (rd_ca_01 h2 h3)
  | succ m ih =>
    intro oA aA cur s n f s1 n1 h1 h2 h3 h
    simp only [rd_testl] at h
    split at h
    · cases hg : pl (tk_e T s) n with
      | error p => rw [hg] at h; cases h
      | ok r =>
        obtain ⟨g, s2, n2⟩ := r
        rw [hg] at h
        exact ih _ _ _ _ _ _ _ _ h1 (fun f hf => by cases hf; exact rd_ca_01 h2 h3) (hp _ _ _ _ _ hg) h
    · split at h
      · cases hg : pl (tk_e T s) n with
        | error p => rw [hg] at h; cases h
        | ok r =>
          obtain ⟨g, s2, n2⟩ := r
          rw [hg] at h
          exact ih _ _ _ _ _ _ _ _ (fun f hf => by cases hf; exact rd_co_01 h1 (rd_ca_01 h2 h3)) (fun f hf => by cases hf) (hp _ _ _ _ _ hg) h
      · cases h; exact rd_co_01 h1 (rd_ca_01 h2 h3)
theorem rd_testw_01 {T : tk_T} {pl : Int → Int → rd_R} (hp : rd_01 pl) : rd_01 (rd_testw T pl) := by
  intro s n f s1 n1 h
  unfold rd_testw at h
  cases hg : pl s n with
  | error p => rw [hg] at h; cases h
  | ok r =>
    obtain ⟨g, s2, n2⟩ := r
    rw [hg] at h
    exact rd_testl_01 hp _ _ _ _ _ _ _ _ _ (fun f hf => by cases hf) (fun f hf => by cases hf) (hp _ _ _ _ _ hg) h
theorem rd_test_01 (T : tk_T) (o : Int) : ∀ k, rd_01 (rd_test T o k)
  | 0 => rd_testw_01 (rd_pln_01 (fun g h => by cases h))
  | k + 1 => rd_testw_01 (rd_pln_01 (fun g h => by cases h; exact rd_test_01 T o k))
