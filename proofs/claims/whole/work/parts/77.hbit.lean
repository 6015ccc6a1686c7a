/-! LINES: bits of what was heard -/
def nm_bt (x : Int) (k : Nat) : Bool := x.toNat.testBit k
theorem nm_bt_or {x y : Int} (x0 : 0 ≤ x) (x1 : x ≤ 255) (y0 : 0 ≤ y) (y1 : y ≤ 255) : (0 ≤ am_or x y ∧ am_or x y ≤ 255) ∧ ∀ k, nm_bt (am_or x y) k = (nm_bt x k || nm_bt y k) := by
  obtain ⟨a, rfl⟩ : ∃ a : Nat, x = (a : Int) := ⟨x.toNat, by omega⟩
  obtain ⟨b, rfl⟩ : ∃ b : Nat, y = (b : Int) := ⟨y.toNat, by omega⟩
  rw [nb_or (by omega) (by omega)]
  have h : a ||| b < 2 ^ 8 := Nat.or_lt_two_pow (by omega) (by omega)
  refine ⟨⟨by omega, by omega⟩, fun k => ?_⟩
  show (((a ||| b : Nat) : Int)).toNat.testBit k = ((a : Int).toNat.testBit k || (b : Int).toNat.testBit k)
  rw [Int.toNat_natCast, Int.toNat_natCast, Int.toNat_natCast, Nat.testBit_or]
theorem nm_bt_shl {k : Nat} (hk : k < 8) : (0 ≤ am_shl 1 (k : Int) ∧ am_shl 1 (k : Int) ≤ 255) ∧ ∀ j, nm_bt (am_shl 1 (k : Int)) j = decide (k = j) := by
  have h : 2 ^ k ≤ 2 ^ 7 := Nat.pow_le_pow_right (by decide) (by omega)
  have e : am_shl 1 (k : Int) = ((2 ^ k : Nat) : Int) := by
    have := nb_shl (a := 1) (k := k) (by omega) (by omega)
    rw [Nat.one_mul] at this
    exact this
  rw [e]
  refine ⟨⟨Int.natCast_nonneg _, Int.le_trans (Int.ofNat_le.2 h) (by decide)⟩, fun j => ?_⟩
  unfold nm_bt
  rw [Int.toNat_natCast, Nat.testBit_two_pow]
theorem nm_bt_ext {x y : Int} (x0 : 0 ≤ x) (x1 : x ≤ 255) (y0 : 0 ≤ y) (y1 : y ≤ 255) (h : ∀ k, k < 8 → nm_bt x k = nm_bt y k) : x = y := by
  have e : x.toNat = y.toNat := Nat.eq_of_testBit_eq (fun i => by
    by_cases hi : i < 8
    · exact h i hi
    · have hp : 2 ^ 8 ≤ 2 ^ i := Nat.pow_le_pow_right (by decide) (by omega)
      rw [Nat.testBit_lt_two_pow (by omega), Nat.testBit_lt_two_pow (by omega)])
  omega
theorem nm_bt0 (k : Nat) : nm_bt 0 k = false := Nat.zero_testBit k
theorem nm_an_dec : ∀ s, s < 256 → ∀ n, n < 256 → (am_and ((s : Nat) : Int) (am_xor ((n : Nat) : Int) (-1)) = 0 ↔ s &&& n = s) := by decide +kernel
theorem nm_bt_an {s n : Int} (s0 : 0 ≤ s) (s1 : s ≤ 255) (n0 : 0 ≤ n) (n1 : n ≤ 255) : am_and s (am_xor n (-1)) = 0 ↔ ∀ k, nm_bt s k = true → nm_bt n k = true := by
  obtain ⟨a, rfl⟩ : ∃ a : Nat, s = (a : Int) := ⟨s.toNat, by omega⟩
  obtain ⟨b, rfl⟩ : ∃ b : Nat, n = (b : Int) := ⟨n.toNat, by omega⟩
  rw [nm_an_dec a (by omega) b (by omega)]
  unfold nm_bt
  rw [Int.toNat_natCast, Int.toNat_natCast]
  constructor
  · intro h k hk
    rw [← h, Nat.testBit_and, Bool.and_eq_true] at hk
    exact hk.2
  · intro h
    refine Nat.eq_of_testBit_eq (fun i => ?_)
    rw [Nat.testBit_and]
    cases ha : a.testBit i
    · rfl
    · rw [h i ha]; rfl
theorem nm_b8_bt {x k : Int} (x0 : 0 ≤ x) (k0 : 0 ≤ k) : nm_b8 x k = if nm_bt x k.toNat then 1 else 0 := by
  obtain ⟨a, rfl⟩ : ∃ a : Nat, x = (a : Int) := ⟨x.toNat, by omega⟩
  unfold nm_b8 nm_bt
  rw [Int.toNat_natCast, Nat.testBit_eq_decide_div_mod_eq]
  have e : (a : Int) / 2 ^ k.toNat % 2 = ((a / 2 ^ k.toNat % 2 : Nat) : Int) := by
    rw [Int.natCast_emod, Int.natCast_ediv, Int.natCast_pow]; rfl
  rw [e]
  by_cases h : a / 2 ^ k.toNat % 2 = 1
  · rw [decide_eq_true h, h]; rfl
  · rw [decide_eq_false h, show a / 2 ^ k.toNat % 2 = 0 by omega]; rfl
/-- bits of what a line makes -/
theorem nm_mb_bt {X : nm_X} {h : Int} {a : Int → Int} {q : Nat} : ∀ n : Nat, nm_bt (nm_mb (nm_mkx X) h a n) q = true ↔ ∃ j : Nat, j < n ∧ nm_mkx X (a (j : Int)) (j : Int) h = (q : Int)
  | 0 => by
    show nm_bt 0 q = true ↔ _
    rw [nm_bt0]
    exact ⟨fun h => absurd h (by decide), fun ⟨j, hj, _⟩ => absurd hj (Nat.not_lt_zero _)⟩
  | n + 1 => by
    have hin := nm_mkx_in (X := X) (m := a (n : Int)) (p := (n : Int)) (h := h)
    have hb := nm_mb_in (X := X) (h := h) (a := a) n
    obtain ⟨v, hv⟩ : ∃ v : Nat, nm_mkx X (a (n : Int)) (n : Int) h = (v : Int) := ⟨(nm_mkx X (a (n : Int)) (n : Int) h).toNat, by omega⟩
    show nm_bt (am_or (nm_mb (nm_mkx X) h a n) (am_shl 1 (nm_mkx X (a (n : Int)) (n : Int) h))) q = true ↔ _
    have hs := nm_bt_shl (k := v) (by omega)
    rw [hv, (nm_bt_or hb.1 hb.2 hs.1.1 hs.1.2).2 q, hs.2 q, Bool.or_eq_true, nm_mb_bt n, decide_eq_true_iff]
    constructor
    · rintro (⟨j, hj, e⟩ | e)
      · exact ⟨j, by omega, e⟩
      · exact ⟨n, by omega, by rw [hv]; omega⟩
    · rintro ⟨j, hj, e⟩
      by_cases c : j = n
      · subst c; exact .inr (by omega)
      · exact .inl ⟨j, by omega, e⟩
/-- heard, in plain words -/
def nm_hp (X : nm_X) (T : List Int) (k : Nat) : Prop := ∃ j : Nat, j < T.length ∧ (j : Int) < nx_S X (85 + 3 * (k : Int)) ∧ nm_mkx X (nm_at T (j : Int)) (j : Int) (nx_S X (85 + 3 * (k : Int))) = nx_S X (86 + 3 * (k : Int))
theorem nm_hd_iff {X : nm_X} {T : List Int} (hO : nm_okS (nx_S X)) : ∀ n : Nat, (n : Int) ≤ nx_S X 1 → (nm_hd (nx_S X) (nm_mkx X) T n = true ↔ ∀ k : Nat, k < n → (nm_hp X T k ↔ nx_S X (87 + 3 * (k : Int)) = 1))
  | 0, _ => ⟨fun _ k hk => absurd hk (Nat.not_lt_zero _), fun _ => rfl⟩
  | n + 1, hn => by
    have oh := hO.2.2.2.2.2.2.2.2.2.2.2.2 (n : Int) (by omega) (by omega)
    have hb := nm_mb_in (X := X) (h := nx_S X (85 + 3 * (n : Int))) (a := nm_at T) (min T.length (nx_S X (85 + 3 * (n : Int))).toNat)
    have o1 := hO.2.1
    have key : am_and (am_shr (nm_mb (nm_mkx X) (nx_S X (85 + 3 * (n : Int))) (nm_at T) (min T.length (nx_S X (85 + 3 * (n : Int))).toNat)) (nx_S X (86 + 3 * (n : Int)))) 1 = nx_S X (87 + 3 * (n : Int)) ↔ (nm_hp X T n ↔ nx_S X (87 + 3 * (n : Int)) = 1) := by
      have e : am_and (am_shr (nm_mb (nm_mkx X) (nx_S X (85 + 3 * (n : Int))) (nm_at T) (min T.length (nx_S X (85 + 3 * (n : Int))).toNat)) (nx_S X (86 + 3 * (n : Int)))) 1 = nm_b8 (nm_mb (nm_mkx X) (nx_S X (85 + 3 * (n : Int))) (nm_at T) (min T.length (nx_S X (85 + 3 * (n : Int))).toNat)) (nx_S X (86 + 3 * (n : Int))) := by
        have := nm_b8_dec (nm_mb (nm_mkx X) (nx_S X (85 + 3 * (n : Int))) (nm_at T) (min T.length (nx_S X (85 + 3 * (n : Int))).toNat)).toNat (by omega) (nx_S X (86 + 3 * (n : Int))).toNat (by omega)
        rw [Int.toNat_of_nonneg hb.1, Int.toNat_of_nonneg oh.2.1.1] at this
        exact this
      have hp : nm_bt (nm_mb (nm_mkx X) (nx_S X (85 + 3 * (n : Int))) (nm_at T) (min T.length (nx_S X (85 + 3 * (n : Int))).toNat)) (nx_S X (86 + 3 * (n : Int))).toNat = true ↔ nm_hp X T n := by
        rw [nm_mb_bt, Int.toNat_of_nonneg oh.2.1.1]
        constructor
        · rintro ⟨j, hj, g⟩; exact ⟨j, by omega, by omega, g⟩
        · rintro ⟨j, h1, h2, g⟩; exact ⟨j, by omega, g⟩
      rw [e, nm_b8_bt hb.1 oh.2.1.1, ← hp]
      cases nm_bt (nm_mb (nm_mkx X) (nx_S X (85 + 3 * (n : Int))) (nm_at T) (min T.length (nx_S X (85 + 3 * (n : Int))).toNat)) (nx_S X (86 + 3 * (n : Int))).toNat
      · rw [if_neg (by decide)]
        exact ⟨fun h => ⟨fun c => absurd c (by decide), fun c => by omega⟩, fun h => by
          have h3 := oh.2.2
          by_cases c : nx_S X (87 + 3 * (n : Int)) = 1
          · exact absurd (h.2 c) (by decide)
          · omega⟩
      · rw [if_pos rfl]
        exact ⟨fun h => ⟨fun _ => h.symm, fun _ => rfl⟩, fun h => (h.1 rfl).symm⟩
    show (nm_hd (nx_S X) (nm_mkx X) T n && decide _) = true ↔ _
    rw [Bool.and_eq_true, decide_eq_true_iff, nm_hd_iff hO n (by omega), key]
    constructor
    · rintro ⟨h1, h2⟩ k hk
      by_cases c : k = n
      · subst c; exact h2
      · exact h1 k (by omega)
    · intro h
      exact ⟨fun k hk => h k (by omega), h n (by omega)⟩
/-- what is heard from a mirror at a place, what is needed -/
def nm_hm (X : nm_X) (m p : Int) : Nat → Int
  | 0 => 0
  | k + 1 => if p < nx_S X (85 + 3 * (k : Int)) ∧ nm_mkx X m p (nx_S X (85 + 3 * (k : Int))) = nx_S X (86 + 3 * (k : Int)) then am_or (nm_hm X m p k) (am_shl 1 (k : Int)) else nm_hm X m p k
theorem nm_hm_bt {X : nm_X} {m p : Int} : ∀ n : Nat, n ≤ 8 → (0 ≤ nm_hm X m p n ∧ nm_hm X m p n ≤ 255) ∧ ∀ k, nm_bt (nm_hm X m p n) k = true ↔ (k < n ∧ p < nx_S X (85 + 3 * (k : Int)) ∧ nm_mkx X m p (nx_S X (85 + 3 * (k : Int))) = nx_S X (86 + 3 * (k : Int)))
  | 0, _ => ⟨⟨Int.le_refl _, show (0 : Int) ≤ 255 by decide⟩, fun k => ⟨fun h => (by rw [show nm_hm X m p 0 = 0 from rfl, nm_bt0] at h; cases h), fun h => absurd h.1 (Nat.not_lt_zero _)⟩⟩
  | n + 1, hn => by
    obtain ⟨h1, h2⟩ := nm_hm_bt (X := X) (m := m) (p := p) n (by omega)
    have e : nm_hm X m p (n + 1) = if p < nx_S X (85 + 3 * (n : Int)) ∧ nm_mkx X m p (nx_S X (85 + 3 * (n : Int))) = nx_S X (86 + 3 * (n : Int)) then am_or (nm_hm X m p n) (am_shl 1 (n : Int)) else nm_hm X m p n := rfl
    rw [e]
    by_cases c : p < nx_S X (85 + 3 * (n : Int)) ∧ nm_mkx X m p (nx_S X (85 + 3 * (n : Int))) = nx_S X (86 + 3 * (n : Int))
    · rw [if_pos c]
      have hs := nm_bt_shl (k := n) (by omega)
      have ho := nm_bt_or h1.1 h1.2 hs.1.1 hs.1.2
      refine ⟨ho.1, fun k => ?_⟩
      rw [ho.2 k, hs.2 k, Bool.or_eq_true, h2 k, decide_eq_true_iff]
      constructor
      · rintro (⟨a, b⟩ | a)
        · exact ⟨by omega, b⟩
        · subst a; exact ⟨by omega, c⟩
      · rintro ⟨a, b⟩
        by_cases g : n = k
        · exact .inr g
        · exact .inl ⟨by omega, b⟩
    · rw [if_neg c]
      refine ⟨h1, fun k => ?_⟩
      rw [h2 k]
      constructor
      · rintro ⟨a, b⟩; exact ⟨by omega, b⟩
      · rintro ⟨a, b⟩
        by_cases g : k = n
        · subst g; exact absurd b c
        · exact ⟨by omega, b⟩
def nm_nd (X : nm_X) : Nat → Int
  | 0 => 0
  | k + 1 => am_or (nm_nd X k) (am_shl (nx_S X (87 + 3 * (k : Int))) (k : Int))
theorem nm_nd_bt {X : nm_X} (hO : nm_okS (nx_S X)) : ∀ n : Nat, (n : Int) ≤ nx_S X 1 → (0 ≤ nm_nd X n ∧ nm_nd X n ≤ 255) ∧ ∀ k, nm_bt (nm_nd X n) k = true ↔ (k < n ∧ nx_S X (87 + 3 * (k : Int)) = 1)
  | 0, _ => ⟨⟨Int.le_refl _, show (0 : Int) ≤ 255 by decide⟩, fun k => ⟨fun h => (by rw [show nm_nd X 0 = 0 from rfl, nm_bt0] at h; cases h), fun h => absurd h.1 (Nat.not_lt_zero _)⟩⟩
  | n + 1, hn => by
    have o1 := hO.2.1
    obtain ⟨h1, h2⟩ := nm_nd_bt hO n (by omega)
    have oh := (hO.2.2.2.2.2.2.2.2.2.2.2.2 (n : Int) (by omega) (by omega)).2.2
    show (0 ≤ am_or (nm_nd X n) (am_shl (nx_S X (87 + 3 * (n : Int))) (n : Int)) ∧ _) ∧ _
    have e : nm_nd X (n + 1) = am_or (nm_nd X n) (am_shl (nx_S X (87 + 3 * (n : Int))) (n : Int)) := rfl
    rw [e]
    by_cases c : nx_S X (87 + 3 * (n : Int)) = 1
    · rw [c]
      have hs := nm_bt_shl (k := n) (by omega)
      have ho := nm_bt_or h1.1 h1.2 hs.1.1 hs.1.2
      refine ⟨ho.1, fun k => ?_⟩
      rw [ho.2 k, hs.2 k, Bool.or_eq_true, h2 k, decide_eq_true_iff]
      constructor
      · rintro (⟨a, b⟩ | a)
        · exact ⟨by omega, b⟩
        · subst a; exact ⟨by omega, c⟩
      · rintro ⟨a, b⟩
        by_cases g : n = k
        · exact .inr g
        · exact .inl ⟨by omega, b⟩
    · have z : am_shl (nx_S X (87 + 3 * (n : Int))) (n : Int) = 0 := by
        rw [show nx_S X (87 + 3 * (n : Int)) = ((0 : Nat) : Int) by omega, nb_shl (by omega) (by rw [Nat.zero_mul]; decide), Nat.zero_mul]; rfl
      rw [z, nm_or0 ⟨by omega, by omega⟩]
      refine ⟨h1, fun k => ?_⟩
      rw [h2 k]
      constructor
      · rintro ⟨a, b⟩; exact ⟨by omega, b⟩
      · rintro ⟨a, b⟩
        by_cases g : k = n
        · subst g; exact absurd b c
        · exact ⟨by omega, b⟩
def nm_hmx (X : nm_X) (m p : Int) : Int := nm_hm X m p (nx_S X 1).toNat
def nm_ndx (X : nm_X) : Int := nm_nd X (nx_S X 1).toNat
/-- what is heard from a whole line -/
def nm_ag (X : nm_X) : List Int → Int
  | [] => 0
  | m :: T => am_or (nm_ag X T) (nm_hmx X m (T.length : Int))
theorem nm_ag_bt {X : nm_X} (hO : nm_okS (nx_S X)) : ∀ T : List Int, (0 ≤ nm_ag X T ∧ nm_ag X T ≤ 255) ∧ ∀ k, nm_bt (nm_ag X T) k = true ↔ ((k : Int) < nx_S X 1 ∧ nm_hp X T k)
  | [] => ⟨⟨Int.le_refl _, show (0 : Int) ≤ 255 by decide⟩, fun k => ⟨fun h => (by rw [show nm_ag X [] = 0 from rfl, nm_bt0] at h; cases h), fun ⟨_, j, hj, _⟩ => absurd hj (Nat.not_lt_zero _)⟩⟩
  | m :: T => by
    have o1 := hO.2.1
    obtain ⟨h1, h2⟩ := nm_ag_bt hO T
    have hh := nm_hm_bt (X := X) (m := m) (p := (T.length : Int)) (nx_S X 1).toNat (by omega)
    have ho := nm_bt_or h1.1 h1.2 hh.1.1 hh.1.2
    refine ⟨ho.1, fun k => ?_⟩
    have e : nm_ag X (m :: T) = am_or (nm_ag X T) (nm_hm X m (T.length : Int) (nx_S X 1).toNat) := rfl
    rw [e, ho.2 k, Bool.or_eq_true, h2 k, hh.2 k]
    constructor
    · rintro (⟨a, j, b, c, g⟩ | ⟨a, b, c⟩)
      · exact ⟨a, j, by rw [List.length_cons]; omega, c, by rw [show nm_at (m :: T) (j : Int) = nm_at T (j : Int) from if_neg (by omega)]; exact g⟩
      · exact ⟨by omega, T.length, by rw [List.length_cons]; omega, b, by rw [show nm_at (m :: T) ((T.length : Nat) : Int) = m from if_pos rfl]; exact c⟩
    · rintro ⟨a, j, b, c, g⟩
      rw [List.length_cons] at b
      by_cases ej : j = T.length
      · subst ej
        rw [show nm_at (m :: T) ((T.length : Nat) : Int) = m from if_pos rfl] at g
        exact .inr ⟨by omega, c, g⟩
      · rw [show nm_at (m :: T) (j : Int) = nm_at T (j : Int) from if_neg (by omega)] at g
        exact .inl ⟨a, j, by omega, c, g⟩
theorem nm_heard_iff {X : nm_X} {T : List Int} (hO : nm_okS (nx_S X)) : nm_heard X T = true ↔ nm_ag X T = nm_ndx X := by
  have o1 := hO.2.1
  unfold nm_heard
  rw [nm_hd_iff hO (nx_S X 1).toNat (by omega)]
  have ha := nm_ag_bt (X := X) hO T
  have hn := nm_nd_bt (X := X) hO (nx_S X 1).toNat (by omega)
  constructor
  · intro h
    refine nm_bt_ext ha.1.1 ha.1.2 hn.1.1 hn.1.2 (fun k _ => ?_)
    rw [Bool.eq_iff_iff, ha.2 k]
    show _ ↔ nm_bt (nm_nd X (nx_S X 1).toNat) k = true
    rw [hn.2 k]
    constructor
    · rintro ⟨a, b⟩; exact ⟨by omega, (h k (by omega)).1 b⟩
    · rintro ⟨a, b⟩; exact ⟨by omega, (h k a).2 b⟩
  · intro h k hk
    have z := ha.2 k
    rw [h] at z
    have z2 := (show nm_bt (nm_ndx X) k = true ↔ _ from hn.2 k)
    constructor
    · intro a; exact (z2.1 (z.2 ⟨by omega, a⟩)).2
    · intro a; exact (z.1 (z2.2 ⟨hk, a⟩)).2
/-- may hang, and nothing from it that was not heard -/
def nm_cn2 (X : nm_X) : Int → Int → Bool := fun m p => nm_cn X m p && decide (am_and (nm_hmx X m p) (am_xor (nm_ndx X) (-1)) = 0)
