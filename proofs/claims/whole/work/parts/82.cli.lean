/-! LINES, the class: listen -/
def nm_tz (X : nm_X) (h : Int) : List (List Int) → (Int → Int) → Int → Int
  | [], _, mx => mx
  | T :: L, t, mx => nm_tz X h L (nm_up t (nm_vh X T h) (t (nm_vh X T h) + 1)) (max mx (t (nm_vh X T h) + 1))
theorem nm_ty_tz {X : nm_X} {h : Int} : ∀ {L : List (List Int)} {t : Int → Int} {mx : Int}, nm_ty X h L t mx = nm_tz X h (L.filter (nm_heard X)) t mx
  | [], _, _ => rfl
  | T :: L, t, mx => by
    show (if nm_heard X T then _ else _) = _
    cases hh : nm_heard X T
    · rw [if_neg (by decide), List.filter_cons_of_neg (by rw [hh]; decide)]; exact nm_ty_tz
    · rw [if_pos rfl, List.filter_cons_of_pos hh]
      show _ = nm_tz X h (L.filter (nm_heard X)) (nm_up t (nm_vh X T h) (t (nm_vh X T h) + 1)) (max mx (t (nm_vh X T h) + 1))
      rw [← nm_ty_tz]
      congr 1
      rw [Int.max_def]
      show (if t (nm_vh X T h) + 1 ≤ mx then mx else t (nm_vh X T h) + 1) = _
      split <;> split <;> omega
theorem nm_fd2_tz {X : nm_X} {h : Int} : ∀ {F : List (List Int)} {s : nm_sg}, (nm_fd2 X (-1) 1 F s).2.2.2 h = nm_tz X h F (s.2.2.1 h) (s.2.2.2 h)
  | [], s => rfl
  | T :: F, s => by
    show (if (-1 : Int) ≠ -1 ∧ _ then s else nm_fd2 X (-1) 1 F (nm_sl X (-1) 1 T s)).2.2.2 h = _
    rw [if_neg (fun c => c.1 rfl), nm_fd2_tz]
    have e1 : (nm_sl X (-1) 1 T s).2.2.1 h = nm_up (s.2.2.1 h) (nm_vh X T h) (s.2.2.1 h (nm_vh X T h) + 1) := by
      unfold nm_sl; simp only [if_neg (show ¬ (1 : Int) = 0 by decide)]
    have e2 : (nm_sl X (-1) 1 T s).2.2.2 h = max (s.2.2.2 h) (s.2.2.1 h (nm_vh X T h) + 1) := by
      unfold nm_sl; simp only [if_neg (show ¬ (1 : Int) = 0 by decide)]
    rw [e1, e2]; rfl
theorem nm_tz_in {X : nm_X} {h : Int} : ∀ {F : List (List Int)} {t : Int → Int} {mx c : Int}, (∀ v, 0 ≤ t v ∧ t v ≤ c) → mx ≤ c → mx ≤ nm_tz X h F t mx ∧ nm_tz X h F t mx ≤ c + (F.length : Int)
  | [], t, mx, c, _, hm => ⟨Int.le_refl _, by rw [List.length_nil]; show mx ≤ _; omega⟩
  | T :: F, t, mx, c, ht, hm => by
    have h0 := ht (nm_vh X T h)
    have := nm_tz_in (X := X) (h := h) (F := F) (t := nm_up t (nm_vh X T h) (t (nm_vh X T h) + 1)) (mx := max mx (t (nm_vh X T h) + 1)) (c := c + 1) (fun v => by
      have := ht v
      show 0 ≤ (if v = nm_vh X T h then _ else _) ∧ (if v = nm_vh X T h then _ else _) ≤ c + 1
      split <;> omega) (by omega)
    rw [List.length_cons]
    show mx ≤ nm_tz X h F _ _ ∧ nm_tz X h F _ _ ≤ _
    omega
theorem nm_tz_pos {X : nm_X} {h : Int} {F : List (List Int)} (hF : F ≠ []) : 1 ≤ nm_tz X h F (fun _ => 0) 0 := by
  cases F with
  | nil => exact absurd rfl hF
  | cons T F =>
    have := nm_tz_in (X := X) (h := h) (F := F) (t := nm_up (fun _ => 0) (nm_vh X T h) (0 + 1)) (mx := max 0 (0 + 1)) (c := 1) (fun v => by
      show 0 ≤ (if v = nm_vh X T h then (0 + 1 : Int) else 0) ∧ (if v = nm_vh X T h then (0 + 1 : Int) else 0) ≤ 1
      split <;> omega) (by decide)
    show 1 ≤ nm_tz X h F _ _
    exact Int.le_trans (by decide) this.1
theorem nm_bh_zero {al : Int → Int} : ∀ k : Nat, (∀ h, al h = 0) → nm_bh al k = (100000000, -1)
  | 0, _ => rfl
  | k + 1, h => by
    show nm_bs (nm_bh al k) _ _ = _
    rw [nm_bh_zero k h, h]; rfl
theorem nmp_29 {d : Nat} {n w : Int} {X : nm_X} {M : am_M} {Q : List am_V → am_M → Prop} (hd : 16 ≤ d) (hC : nm_C M X) (hok : nm_ok X) (hQ : nm_KC (sp_29 X n w).1 [(0, (sp_29 X n w).2)] M Q) : am_CL d 29 [(2, 0), (0, n), (0, w)] M Q := by
  have hL := nm_C_L hC
  have o0 := hC.1.2.2.1.1
  have q := hQ M nm_cR hC
  unfold sp_29 at hQ q
  simp only at hQ q
  by_cases hn : (0 ≤ n ∧ n ≤ 6) ∧ 0 ≤ w ∧ w ≤ 1
  · rw [if_pos hn] at hQ
    clear q
    obtain ⟨k, rfl⟩ : ∃ k : Nat, n = (k : Int) := ⟨n.toNat, by omega⟩
    rw [show ((k : Int)).toNat = k by omega] at hQ
    have hgl := nm_gen_46 (cn := nm_cn X) (N := nx_S X 0) (n := k) (T := []) o0.2 (by omega)
    have hfl := List.length_filter_le (nm_heard X) (nm_gen (nm_cn X) (nx_S X 0) k [])
    have eal : (fun h => nm_ty X h (nm_gen (nm_cn X) (nx_S X 0) k []) (fun _ => 0) 0) = fun h => nm_tz X h ((nm_gen (nm_cn X) (nx_S X 0) k []).filter (nm_heard X)) (fun _ => 0) 0 := funext (fun h => nm_ty_tz)
    rw [eal] at hQ
    refine h_29_0 hL ⟨fun c => absurd c (by omega), fun _ => ⟨fun c => absurd c (by omega), fun _ => ⟨fun c => absurd c (by omega), fun _ => ⟨fun _ => ⟨by omega, ?_⟩, fun c => absurd (by omega) c⟩⟩⟩⟩
    refine nmc_74 (by omega) hok hC (by omega) (by omega) (.inr rfl) (fun M1 F1 q1 => ?_) (fun g0 M1 F1 => ?_)
    · have C1 := nm_C_fr hC F1 (by decide +kernel)
      have hL1 := nm_C_L C1
      have r := hQ M1 (nm_cF F1 (by decide +kernel)) C1
      rw [nm_fd2_cnt]
      have e0 : nm_sg0.1 = 0 := rfl
      have q29 : ∀ h, 1 ≤ h → h ≤ 8 → am_gt M1 29 (h - 1) = nm_tz X h ((nm_gen (nm_cn X) (nx_S X 0) k []).filter (nm_heard X)) (fun _ => 0) 0 := by
        intro h a b
        rw [(q1.2.2.2.2 (by decide) h a b).1, nm_fd2_tz]; rfl
      generalize (nm_gen (nm_cn X) (nx_S X 0) k []).filter (nm_heard X) = F at r q29 hfl ⊢
      refine h_29_31 hL1 ⟨fun c => ⟨by omega, ?_⟩, fun c => ?_⟩
      · have hF : F ≠ [] := fun e => c (by rw [e]; rfl)
        have al1 : ∀ h, 1 ≤ nm_tz X h F (fun _ => 0) 0 ∧ nm_tz X h F (fun _ => 0) 0 < 100000000 := fun h => by
          have a := nm_tz_pos (X := X) (h := h) hF
          have b := (nm_tz_in (X := X) (h := h) (F := F) (t := fun _ => 0) (mx := 0) (c := 0) (fun v => ⟨Int.le_refl 0, Int.le_refl 0⟩) (Int.le_refl 0)).2
          omega
        generalize hal : (fun h => nm_tz X h F (fun _ => 0) 0) = al at r
        have al2 : ∀ h, nm_tz X h F (fun _ => 0) 0 = al h := fun h => by rw [← hal]
        simp only [al2] at al1 q29
        refine h_75_0 hL1 ?_
        have loop : ∀ j : Nat, j ≤ 8 → 1 ≤ j → ∀ b : Int, 1 ≤ b → b ≤ 8 → nm_bh al j = (al b, b) → am_WP (d - 1) am_c75 4 [(2, 20), (0, b), (0, (j : Int) + 1)] [] M1 (fun r M' => am_WP d am_c29 43 [(2, 0), (0, (k : Int)), (0, w), (9, 0)] (r ++ []) M' Q) := by
          refine nm_dn ?_
          intro j hj ih j1 b b1 b8 eb
          refine h_75_4 hL1 ⟨fun c => ?_, fun c => ?_⟩
          · have j8 : j = 8 := by omega
            subst j8
            rw [eb] at r
            simp only at r
            rw [if_neg (by omega)] at r
            refine h_29_43 hL1 ⟨fun w1 => ⟨by omega, ?_⟩, fun w1 => ?_⟩
            · rw [if_neg w1] at r
              refine h_76_0 hL1 ⟨fun c => absurd c (by omega), fun _ => ⟨fun c => absurd c (by omega), fun _ => ?_⟩⟩
              rw [am_w_id (x := b - 1) (by omega) (by omega), q29 b b1 b8]
              exact ⟨by omega, by omega, h_29_60 hL1 r⟩
            · rw [if_pos (Decidable.of_not_not w1)] at r
              exact h_29_60 hL1 r
          · have e1 : am_gt M1 29 (j : Int) = al ((j : Int) + 1) := by
              have := q29 ((j : Int) + 1) (by omega) (by omega)
              rw [show (j : Int) + 1 - 1 = (j : Int) by omega] at this
              exact this
            rw [am_w_id (x := (j : Int) + 1 - 1) (by omega) (by omega), am_w_id (x := b - 1) (by omega) (by omega), q29 b b1 b8, show (j : Int) + 1 - 1 = (j : Int) by omega, e1, am_w_id (x := (j : Int) + 1 + 1) (by omega) (by omega), show (j : Int) + 1 + 1 = ((j + 1 : Nat) : Int) + 1 by omega]
            have es : nm_bh al (j + 1) = nm_bs (nm_bh al j) (al ((j : Int) + 1)) ((j : Int) + 1) := rfl
            have a1 := al1 ((j : Int) + 1)
            refine ⟨by omega, by omega, by omega, by omega, fun g => ?_, fun g => ?_⟩
            · refine ih (by omega) (by omega) b b1 b8 ?_
              rw [es, eb]
              exact if_neg (fun z => by have := z.2; simp only at this; omega)
            · refine ih (by omega) (by omega) ((j : Int) + 1) (by omega) (by omega) ?_
              rw [es, eb]
              exact if_pos ⟨by omega, by simp only; omega⟩
        refine loop 1 (by decide) (Nat.le_refl _) 1 (by decide) (by decide) ?_
        show nm_bs (100000000, -1) (al ((0 : Nat) + 1)) (((0 : Nat) : Int) + 1) = _
        have a1 := al1 1
        exact if_pos ⟨by show 0 < al 1; omega, by show al 1 < 100000000; omega⟩
      · have hF : F = [] := by
          have : nm_sg0.1 + (F.length : Int) = 0 := Decidable.of_not_not c
          exact List.eq_nil_of_length_eq_zero (by omega)
        rw [hF, nm_bh_zero (al := fun h => nm_tz X h [] (fun _ => 0) 0) 8 (fun h => rfl)] at r
        exact r
    · have C1 := nm_C_fr hC F1 (by decide +kernel)
      have r := hQ M1 (nm_cF F1 (by decide +kernel)) C1
      rw [g0, nm_bh_zero (al := fun h => nm_tz X h (List.filter (nm_heard X) []) (fun _ => 0) 0) 8 (fun h => rfl)] at r
      exact h_29_31 (nm_C_L C1) ⟨fun c => absurd rfl c, fun _ => r⟩
  · rw [if_neg hn] at q
    exact h_29_0 hL ⟨fun _ => q, fun c => ⟨fun _ => q, fun c' => ⟨fun _ => q, fun c'' => ⟨fun c3 => absurd ⟨⟨by omega, by omega⟩, by omega, c3⟩ hn, fun _ => q⟩⟩⟩⟩
