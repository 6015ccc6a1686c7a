/-! what is sure stays sure -/
theorem nm_ok_R {X : nm_X} {R : Int → Int} (h : nm_ok X) (e : R 10 = nx_R X 10) : nm_ok (ns_R X R) := by
  refine ⟨h.1, h.2.1, h.2.2.1, h.2.2.2.1, ?_⟩
  have := h.2.2.2.2
  show R 10 = -1 ∨ (0 ≤ R 10 ∧ R 10 ≤ 6 ∧ nm_okW (R 10) (nx_Y X))
  rw [e]; exact this
theorem nm_ok_rf {X : nm_X} {v : Int} (h : nm_ok X) (hv : v = -1 ∨ v = -2 ∨ v = -3 ∨ v = -5 ∨ v = -6) : nm_ok (nx_rf X v) := nm_ok_R h (nm_rf10 hv)
theorem nm_ok_fn {X : nm_X} (h : nm_ok X) : nm_ok (nx_fn X) := nm_ok_R h (nm_up_ne (by decide))
theorem nm_ok_tl {X : nm_X} {a : Int} (h : nm_ok X) (hv : 0 ≤ a ∨ a = -1 ∨ a = -2 ∨ a = -3 ∨ a = -5 ∨ a = -6) : nm_ok (nx_tl X a) := by
  refine nm_ok_R h ?_
  unfold nm_tl1
  by_cases c : a < 0
  · rw [if_pos c]; exact nm_rf10 (by omega)
  · rw [if_neg c]; exact nm_up_ne (by decide)
theorem nm_ok_set {X : nm_X} {S : Int → Int} {W : nm_W} {U : List (Int × nm_W)} (h : nm_ok X) (g : nm_okS S ∧ nm_okC S ∧ nm_okW (S 0) W ∧ W.1 ≤ 999) (u : U.length ≤ 16 ∧ ∀ u ∈ U, 0 ≤ u.1 ∧ u.1 ≤ 3 ∧ nm_okW (S 0) u.2 ∧ u.2.1 ≤ 999) : nm_ok ((S, W, X.1.2.2), X.2.1, X.2.2.1, U, X.2.2.2.2) := ⟨g, h.2.1, u, h.2.2.2.1, h.2.2.2.2⟩
theorem nm_okC_eq {S S' : Int → Int} (h : nm_okC S) (h6 : S 0 ≤ 6) (e : ∀ j, j = 0 ∨ (71 ≤ j ∧ j < 77) → S' j = S j) : nm_okC S' := by
  have e0 := e 0 (.inl rfl)
  refine ⟨fun i a b => ?_, fun i j a b c f => ?_⟩
  · rw [e0] at b ⊢
    rw [e (71 + i) (.inr ⟨by omega, by omega⟩)]; exact h.1 i a b
  · rw [e0] at b f
    rw [e (71 + i) (.inr ⟨by omega, by omega⟩), e (71 + j) (.inr ⟨by omega, by omega⟩)]; exact h.2 i j a b c f
/-- the numbers alone changed, not who there is -/
theorem nm_ok_S {X : nm_X} {S : Int → Int} (h : nm_ok X) (hS : nm_okS S) (e : ∀ j, j = 0 ∨ (71 ≤ j ∧ j < 77) → S j = nx_S X j) : nm_ok (ns_S X S) := by
  obtain ⟨g, i, u, l⟩ := h
  have e0 := e 0 (.inl rfl)
  refine nm_ok_set (X := X) ⟨g, i, u, l⟩ ⟨hS, nm_okC_eq g.2.1 g.1.1.2 e, ?_, g.2.2.2⟩ ⟨u.1, fun x hx => ?_⟩
  · rw [e0]; exact g.2.2.1
  · rw [e0]; exact u.2 x hx
theorem nm_ok_7 {X : nm_X} {p n : Int} (h : nm_ok X) : nm_ok (sp_7 X p n).1 := by
  unfold sp_7
  split
  · exact nm_ok_rf h (.inl rfl)
  · refine nm_ok_fn (nm_ok_S h (nm_okS_up h.1.1 (fun _ => by omega) (fun _ => by omega) (fun _ => by omega) (fun _ => by omega) (fun _ => by omega) (fun _ _ => by omega) (by omega)) (fun j hj => nm_up_ne (by omega)))
theorem nm_ok_10 {X : nm_X} {n : Int} (h : nm_ok X) : nm_ok (sp_10 X n).1 := by
  unfold sp_10
  split
  · exact h
  · have t := h.2.2.2.1
    refine ⟨h.1, h.2.1, h.2.2.1, ⟨by show 0 ≤ n; omega, by show n ≤ 400; omega, fun i a b => t.2.2 i a (by have : i < n := b; omega)⟩, h.2.2.2.2⟩
theorem nm_ok_17 {X : nm_X} {l : Int} (h : nm_ok X) : nm_ok (sp_17 X l).1 := by
  have o : 0 ≤ nx_S X 2 ∧ nx_S X 2 ≤ 6 := h.1.1.2.2.1
  unfold sp_17
  split
  · refine nm_ok_fn (nm_ok_S h (nm_okS_up h.1.1 (fun _ => by omega) (fun _ => by omega) (fun _ => by omega) (fun _ => by omega) (fun _ => by omega) (fun _ _ => by omega) (by omega)) (fun j hj => nm_up_ne (by omega)))
  · exact nm_ok_rf h (by omega)
theorem nm_ok_26 {X : nm_X} {a b c : Int} (h : nm_ok X) : nm_ok (sp_26 X a b c).1 := by
  have o : 0 ≤ nx_S X 1 ∧ nx_S X 1 ≤ 8 := h.1.1.2.1
  unfold sp_26
  split
  · exact nm_ok_rf h (by omega)
  · split
    · exact nm_ok_rf h (by omega)
    · refine nm_ok_fn (nm_ok_S h (nm_okS_hr h.1.1 (by omega) (by omega) (by omega) (by omega)) (fun j hj => ?_))
      have o' : 0 ≤ X.1.1 1 := o.1
      unfold nm_hrS
      rw [nm_up_ne (by omega), nm_up_ne (by omega), nm_up_ne (by omega), nm_up_ne (by omega)]
theorem nm_ok_27 {X : nm_X} (h : nm_ok X) : nm_ok (sp_27 X).1 :=
  nm_ok_S h (nm_okS_up h.1.1 (fun _ => rfl) (fun c => absurd c (by decide)) (fun c => absurd c (by decide)) (fun c => absurd c (by decide)) (fun c => absurd c (by decide)) (fun c => absurd c (by decide)) (.inl rfl)) (fun j hj => nm_up_ne (by omega))
theorem nm_ok_8 {X : nm_X} {k v : Int} (h : nm_ok X) : nm_ok (sp_8 X k v).1 := by
  unfold sp_8
  split
  · rename_i c
    refine nm_ok_fn (nm_ok_set (X := X) (S := if k = 0 then nx_S X else nm_up (nx_S X) (4 + k) v) (W := (if k = 0 then v else (nx_W X).1, (nx_W X).2)) h ⟨nm_okS_term h.1.1 ?_, nm_okC_eq h.1.2.1 h.1.1.1.2 (fun j hj => ?_), ?_, ?_⟩ ⟨Nat.zero_le _, fun u hu => by cases hu⟩)
    · unfold nm_trm; exact c
    · by_cases e : k = 0
      · rw [if_pos e]
      · rw [if_neg e, nm_up_ne (by omega)]
    · have e0 : (if k = 0 then nx_S X else nm_up (nx_S X) (4 + k) v) 0 = nx_S X 0 := by
        by_cases e : k = 0
        · rw [if_pos e]
        · rw [if_neg e, nm_up_ne (by omega)]
      rw [e0]
      have w := h.1.2.2
      refine ⟨?_, ?_, w.1.2.2⟩
      · show 0 ≤ (if k = 0 then v else (nx_W X).1)
        split
        · omega
        · exact w.1.1
      · show (if k = 0 then v else (nx_W X).1) ≤ 1999
        split
        · omega
        · exact w.1.2.1
    · show (if k = 0 then v else (nx_W X).1) ≤ 999
      split
      · omega
      · exact h.1.2.2.2
  · exact nm_ok_rf h (by omega)
theorem nm_ok_22 {X : nm_X} (h : nm_ok X) : nm_ok (sp_22 X).1 := by
  have u := h.2.2.1
  unfold sp_22
  split
  · exact nm_ok_rf h (by omega)
  · rename_i c
    have hm := u.2 ((nx_U X).getD ((nx_U X).length - 1) nm_u0) (by
      rw [List.getD_eq_getElem?_getD, List.getElem?_eq_getElem (show (nx_U X).length - 1 < (nx_U X).length by omega), Option.getD_some]
      exact List.getElem_mem _)
    refine nm_ok_fn (nm_ok_set (X := X) (S := nx_S X) h ⟨h.1.1, h.1.2.1, hm.2.2.1, hm.2.2.2⟩ ⟨by rw [List.length_take]; omega, fun x hx => u.2 x (List.mem_of_mem_take hx)⟩)
theorem nm_ok_39 {X : nm_X} {k : Int} (h : nm_ok X) : nm_ok (sp_39 X k).1 := by
  unfold sp_39
  split
  · exact nm_ok_rf h (by omega)
  · refine nm_ok_fn ⟨h.1, fun j a b => ?_, h.2.2.1, h.2.2.2.1, h.2.2.2.2⟩
    show nm_up X.2.2.1 k 1 j = 0 ∨ (nm_up X.2.2.1 k 1 j = 1 ∧ nm_okG (if j = k then X.1 else X.2.1 j))
    unfold nm_up
    by_cases e : j = k
    · rw [if_pos e, if_pos e]; exact .inr ⟨rfl, h.1⟩
    · rw [if_neg e, if_neg e]; exact h.2.1 j a b
theorem nm_ok_40 {X : nm_X} {k : Int} (h : nm_ok X) : nm_ok (sp_40 X k).1 := by
  unfold sp_40
  split
  · exact nm_ok_rf h (by omega)
  · split
    · exact nm_ok_rf h (by omega)
    · rename_i c c'
      have g := (h.2.1 k (by omega) (by omega)).resolve_left c'
      exact nm_ok_fn ⟨g.2, h.2.1, ⟨Nat.zero_le _, fun u hu => by cases hu⟩, h.2.2.2.1, h.2.2.2.2⟩
theorem nm_ok_11 {X : nm_X} (h : nm_ok X) : nm_ok (sp_11 X).1 := by
  unfold sp_11
  split
  · exact nm_ok_rf h (by omega)
  · have r := nm_rw_ok (P := nx_P X) h.1.1 (nx_L X).toNat
    have a := nm_ok_S (X := X) h r.1 (fun j hj => r.2.2.2 j (by omega))
    refine nm_ok_fn (nm_ok_R (X := ns_L (ns_S X (nm_rw (nx_P X) (nx_S X) (nx_L X).toNat).1) 0) ?_ (nm_up_ne (by decide)))
    exact ⟨a.1, a.2.1, a.2.2.1, ⟨Int.le_refl 0, by show (0 : Int) ≤ 400; decide, fun i x y => absurd (show i < 0 from y) (by omega)⟩, a.2.2.2.2⟩
theorem nm_p4_in {P : Int → Int} {L v : Int} (h : ∀ i, 0 ≤ i → i < L → 0 ≤ P i ∧ P i ≤ 255) : ∀ i, 0 ≤ i → i < L + 4 → 0 ≤ nm_p4 P L v i ∧ nm_p4 P L v i ≤ 255 := by
  intro i a b
  unfold nm_p4 nm_up
  repeat' split
  all_goals first | exact nm_and255 _ | exact h i a (by omega)
theorem nm_ok_9 {X : nm_X} {a b c e f : Int} (h : nm_ok X) : nm_ok (sp_9 X a b c e f).1 := by
  have t := h.2.2.2.1
  unfold sp_9
  split
  · exact h
  · refine ⟨h.1, h.2.1, h.2.2.1, ⟨by show 0 ≤ nx_L X + 20; omega, by show nx_L X + 20 ≤ 400; omega, fun i x y => ?_⟩, h.2.2.2.2⟩
    exact nm_p4_in (nm_p4_in (nm_p4_in (nm_p4_in (nm_p4_in t.2.2)))) i x (by have : i < nx_L X + 20 := y; omega)
theorem nm_ok_ch {X : nm_X} {k m b : Int} (hk : 0 ≤ k ∧ k ≤ 3) (h : nm_ok X) : nm_ok (nm_ch X k m b).1 := by
  have w := h.1.2.2
  have u := h.2.2.1
  have o0 := h.1.1.1
  unfold nm_ch
  split
  · exact h
  · rename_i c
    have key : nm_okW (nx_S X 0) (nm_chW (nx_S X) (nx_W X) (nm_lwf (nx_S X) (nx_D X)) k m b) ∧ (nm_chW (nx_S X) (nx_W X) (nm_lwf (nx_S X) (nx_D X)) k m b).1 ≤ 999 := by
      unfold nm_chA at c
      unfold nm_chW
      by_cases k0 : k = 0
      · rw [if_pos k0] at c ⊢
        obtain ⟨a1, a2, a3⟩ := nm_hangR_cases (S := nx_S X) (W := nx_W X) (T := nm_lwf (nx_S X) (nx_D X)) (m := m) (by omega)
        refine ⟨nm_okW_hang w.1 a1 a2 (fun z => ?_), w.2⟩
        unfold nm_ix at a3
        rw [if_pos z] at a3
        omega
      · rw [if_neg k0] at c ⊢
        by_cases k1 : k = 1
        · rw [if_pos k1] at c ⊢
          exact ⟨nm_okW_down w.1, w.2⟩
        · rw [if_neg k1] at c ⊢
          by_cases k2 : k = 2
          · rw [if_pos k2] at c ⊢
            have c1 : ¬ (b < 1 ∨ 30 < b) := fun z => by rw [if_pos z] at c; omega
            rw [if_neg c1] at c
            have c2 : ¬ (m < 0 ∨ nx_S X 0 ≤ m) := fun z => by rw [if_pos z] at c; omega
            rw [if_neg c2] at c
            have c3 : ¬ (nx_W X).2.2.2 0 = 0 := fun z => by rw [if_pos z] at c; omega
            refine ⟨⟨w.1.1, w.1.2.1, w.1.2.2.1, w.1.2.2.2.1, fun j x y => ?_, fun j x y => ?_⟩, w.2⟩
            · have s := w.1.2.2.2.2.1 j x y
              show 0 ≤ nm_up (nx_W X).2.2.1 m (min 30 ((nx_W X).2.2.1 m + b)) j ∧ nm_up (nx_W X).2.2.1 m (min 30 ((nx_W X).2.2.1 m + b)) j ≤ 30
              unfold nm_up
              by_cases e : j = m
              · rw [if_pos e]
                have s' : 0 ≤ (nx_W X).2.2.1 m := by rw [← e]; exact s.1
                omega
              · rw [if_neg e]; exact s
            · have s := w.1.2.2.2.2.2 j x y
              show 0 ≤ nm_up (nx_W X).2.2.2 0 ((nx_W X).2.2.2 0 - 1) j ∧ nm_up (nx_W X).2.2.2 0 ((nx_W X).2.2.2 0 - 1) j ≤ 99
              have s0 := w.1.2.2.2.2.2 0 (by decide) (by decide)
              have s0' : 0 ≤ (nx_W X).2.2.2 0 ∧ (nx_W X).2.2.2 0 ≤ 99 := s0
              unfold nm_up
              by_cases e : j = 0
              · rw [if_pos e]; omega
              · rw [if_neg e]; exact s
          · rw [if_neg k2] at c ⊢
            have c1 : ¬ 999 ≤ (nx_W X).1 := fun z => by rw [if_pos z] at c; omega
            refine ⟨nm_okW_pass w.1 (by omega), ?_⟩
            show (nx_W X).1 + 1 ≤ 999
            omega
    refine nm_ok_set (X := X) (S := nx_S X) h ⟨h.1.1, h.1.2.1, key.1, key.2⟩ ⟨?_, fun x hx => ?_⟩
    · unfold nm_keep
      rw [List.length_append, List.length_singleton]
      have := u.1
      split
      · rw [List.length_drop]; omega
      · omega
    · unfold nm_keep at hx
      rcases List.mem_append.1 hx with y | y
      · refine u.2 x ?_
        split at y
        · exact List.mem_of_mem_drop y
        · exact y
      · rw [List.mem_singleton.1 y]; exact ⟨hk.1, hk.2, w.1, w.2⟩
theorem nm_ok_sch {X : nm_X} {k m b : Int} (hk : 0 ≤ k ∧ k ≤ 3) (h : nm_ok X) : nm_ok (sp_ch X k m b).1 := nm_ok_tl (nm_ok_ch hk h) (nm_ch_in h k m b)
theorem nm_yr_ok {S : Int → Int} {T : nm_T} : ∀ (k : Nat) (s : Int) (W : nm_W) (a : Int), nm_okW (S 0) W → nm_okW (S 0) (nm_yr S T k s W a).1
  | 0, _, _, _, h => h
  | k + 1, s, W, a, h => by
    show nm_okW (S 0) (if 999 ≤ W.1 then (W, a) else _).1
    split
    · exact h
    · have y := nm_yW_ok (T := T) (m := nm_dr s % S 0) (h := nm_dr (nm_dr s) % 3) rfl h
      exact nm_yr_ok k _ _ _ (nm_okW_pass y.1 (by omega))
theorem nm_ok_37 {X : nm_X} {s n : Int} (h : nm_ok X) : nm_ok (sp_37 X s n).1 := by
  unfold sp_37
  split
  · exact nm_ok_rf h (by omega)
  · split
    · exact nm_ok_rf h (by omega)
    · refine nm_ok_fn ⟨h.1, h.2.1, h.2.2.1, h.2.2.2.1, .inr ?_⟩
      have o0 := h.1.1.1
      show 0 ≤ nm_up (nx_R X) 10 (nx_S X 0) 10 ∧ nm_up (nx_R X) 10 (nx_S X 0) 10 ≤ 6 ∧ nm_okW (nm_up (nx_R X) 10 (nx_S X 0) 10) _
      rw [nm_up_eq]
      exact ⟨o0.1, o0.2, nm_yr_ok _ _ _ _ h.1.2.2.1⟩
theorem nm_sb_dec1 : ∀ c, c < 64 → ∀ k, k < 6 → ∀ b, b < 2 → ∀ j, j < 6 → nm_bit (nm_setb ((c : Nat) : Int) ((k : Nat) : Int) ((b : Nat) : Int)) ((j : Nat) : Int) = if j = k then (b : Int) else nm_bit (c : Int) (j : Int) := by decide +kernel
theorem nm_sb_dec2 : ∀ c, c < 64 → ∀ k, k < 6 → ∀ b, b < 2 → ∀ n, n < 7 → (2 ^ n ≤ c ∨ n ≤ k ∨ nm_setb ((c : Nat) : Int) ((k : Nat) : Int) ((b : Nat) : Int) < ((2 ^ n : Nat) : Int)) := by decide +kernel
theorem nm_sbt1 {c k b j : Int} (c0 : 0 ≤ c) (c1 : c ≤ 63) (k0 : 0 ≤ k) (k1 : k < 6) (b0 : 0 ≤ b) (b1 : b ≤ 1) (j0 : 0 ≤ j) (j1 : j < 6) : nm_bit (nm_setb c k b) j = if j = k then b else nm_bit c j := by
  have := nm_sb_dec1 c.toNat (by omega) k.toNat (by omega) b.toNat (by omega) j.toNat (by omega)
  rw [Int.toNat_of_nonneg c0, Int.toNat_of_nonneg k0, Int.toNat_of_nonneg b0, Int.toNat_of_nonneg j0] at this
  rw [this]
  by_cases e : j = k
  · rw [if_pos e, if_pos (by rw [e])]
  · rw [if_neg e, if_neg (by omega)]
theorem nm_sbt2 {c k b n : Int} (c0 : 0 ≤ c) (c1 : c ≤ 63) (k0 : 0 ≤ k) (k1 : k < n) (b0 : 0 ≤ b) (b1 : b ≤ 1) (n6 : n ≤ 6) (h : c < 2 ^ n.toNat) : nm_setb c k b < 2 ^ n.toNat := by
  have := nm_sb_dec2 c.toNat (by omega) k.toNat (by omega) b.toNat (by omega) n.toNat (by omega)
  rw [Int.toNat_of_nonneg c0, Int.toNat_of_nonneg k0, Int.toNat_of_nonneg b0] at this
  have e : ((2 ^ n.toNat : Nat) : Int) = 2 ^ n.toNat := by rw [Int.natCast_pow]; rfl
  rw [e] at this
  rcases this with z | z | z
  · have z' : ((2 ^ n.toNat : Nat) : Int) ≤ (c.toNat : Int) := Int.ofNat_le.2 z
    rw [e, Int.toNat_of_nonneg c0] at z'
    exact absurd h (Int.not_lt.2 z')
  · omega
  · exact z
theorem nm_crS_at {S : Int → Int} {x y b i : Int} : nm_crS S x y b (71 + i) = if i = y then nm_setb (S (71 + y)) x b else if i = x then nm_setb (S (71 + x)) y b else S (71 + i) := by
  unfold nm_crS nm_up
  by_cases e : i = y
  · rw [if_pos (by omega), if_pos e]
  · rw [if_neg (by omega), if_neg e]
    by_cases g : i = x
    · rw [if_pos (by omega), if_pos g]
    · rw [if_neg (by omega), if_neg g]
theorem nm_ok_5 {X : nm_X} {x y b : Int} (h : nm_ok X) : nm_ok (sp_5 X x y b).1 := by
  unfold sp_5
  split
  · exact nm_ok_rf h (by omega)
  · split
    · exact nm_ok_rf h (by omega)
    · rename_i c c'
      have o0 : 0 ≤ nx_S X 0 ∧ nx_S X 0 ≤ 6 := h.1.1.1
      have ob : ∀ i, 0 ≤ i → i < 6 → 0 ≤ nx_S X (71 + i) ∧ nx_S X (71 + i) ≤ 63 := h.1.1.2.2.2.2.2.2.2.2.2.2.1
      have e0 : nm_crS (nx_S X) x y b 0 = nx_S X 0 := by unfold nm_crS; rw [nm_up_ne (by omega), nm_up_ne (by omega)]
      have ox := ob x (by omega) (by omega)
      have oy := ob y (by omega) (by omega)
      have hC : nm_okC (nx_S X) := h.1.2.1
      have bt : ∀ i j, 0 ≤ i → i < nx_S X 0 → 0 ≤ j → j < nx_S X 0 → nm_bit (nm_crS (nx_S X) x y b (71 + i)) j = if (i = x ∧ j = y) ∨ (i = y ∧ j = x) then b else nm_bit (nx_S X (71 + i)) j := by
        intro i j i0 i1 j0 j1
        rw [nm_crS_at]
        by_cases e : i = y
        · rw [if_pos e, nm_sbt1 oy.1 oy.2 (by omega) (by omega) (by omega) (by omega) j0 (by omega), e]
          by_cases g : j = x
          · rw [if_pos g, if_pos (.inr ⟨rfl, g⟩)]
          · rw [if_neg g, if_neg (by omega)]
        · rw [if_neg e]
          by_cases e' : i = x
          · rw [if_pos e', nm_sbt1 ox.1 ox.2 (by omega) (by omega) (by omega) (by omega) j0 (by omega), e']
            by_cases g : j = y
            · rw [if_pos g, if_pos (.inl ⟨rfl, g⟩)]
            · rw [if_neg g, if_neg (by omega)]
          · rw [if_neg e', if_neg (by omega)]
      refine nm_ok_fn (nm_ok_set (X := X) (S := nm_crS (nx_S X) x y b) (W := nx_W X) (U := nx_U X) h ⟨nm_okS_cr h.1.1 (by omega) (by omega) (by omega) (by omega) (by omega) (by omega), ⟨fun i a d => ?_, fun i j a d a' d' => ?_⟩, by rw [e0]; exact h.1.2.2.1, h.1.2.2.2⟩ ⟨h.2.2.1.1, fun u hu => by rw [e0]; exact h.2.2.1.2 u hu⟩)
      · rw [e0] at d ⊢
        rw [nm_crS_at]
        split
        · exact nm_sbt2 oy.1 oy.2 (by omega) (by omega) (by omega) (by omega) o0.2 (hC.1 y (by omega) (by omega))
        · split
          · exact nm_sbt2 ox.1 ox.2 (by omega) (by omega) (by omega) (by omega) o0.2 (hC.1 x (by omega) (by omega))
          · exact hC.1 i a d
      · rw [e0] at d d'
        rw [bt i j a d a' d', bt j i a' d' a d]
        by_cases g : (i = x ∧ j = y) ∨ (i = y ∧ j = x)
        · rw [if_pos g, if_pos (by omega)]
        · rw [if_neg g, if_neg (by omega)]; exact hC.2 i j a d a' d'
theorem nm_addS_71 {S : Int → Int} {v n b i : Int} (h0 : 0 ≤ S 0) (h6 : S 0 < 6) (n0 : 0 ≤ n) (hn : n ≤ 5) (i0 : 0 ≤ i) : nm_addS S v n b (71 + i) = if i = S 0 then 0 else S (71 + i) := by
  unfold nm_addS
  rw [nm_up_ne (by omega)]
  by_cases e : i = S 0
  · rw [if_pos e, e, nm_up_eq]
  · rw [if_neg e, nm_up_ne (by omega), nm_up_ne (by omega), nm_up_ne (by omega), nm_dg_ne (by omega)]
theorem nm_bit_0 (j : Int) : nm_bit 0 j = 0 := by unfold nm_bit; rw [Int.zero_ediv]; rfl
theorem nm_bit_hi {c j : Int} (c0 : 0 ≤ c) (h : c < 2 ^ j.toNat) : nm_bit c j = 0 := by unfold nm_bit; rw [Int.ediv_eq_zero_of_lt c0 h]; rfl
theorem nm_ok_1 {X : nm_X} {v b s : Int} (h : nm_ok X) : nm_ok (sp_1 X v b s).1 := by
  unfold sp_1
  split
  · exact nm_ok_rf h (by omega)
  · split
    · exact nm_ok_rf h (by omega)
    · rename_i c c'
      have o0 : 0 ≤ nx_S X 0 ∧ nx_S X 0 ≤ 6 := h.1.1.1
      have ob : ∀ i, 0 ≤ i → i < 6 → 0 ≤ nx_S X (71 + i) ∧ nx_S X (71 + i) ≤ 63 := h.1.1.2.2.2.2.2.2.2.2.2.2.1
      have hp := nm_pc_in (v := v)
      have hC : nm_okC (nx_S X) := h.1.2.1
      have w := h.1.2.2
      have e0 : nm_addS (nx_S X) v (nm_pc v) b 0 = nx_S X 0 + 1 := nm_addS_0
      have e71 : ∀ i, 0 ≤ i → nm_addS (nx_S X) v (nm_pc v) b (71 + i) = if i = nx_S X 0 then 0 else nx_S X (71 + i) := fun i i0 => nm_addS_71 o0.1 (by omega) hp.1 hp.2 i0
      refine nm_ok_fn (nm_ok_set (X := X) (S := nm_addS (nx_S X) v (nm_pc v) b) (W := ((nx_W X).1, (nx_W X).2.1, nm_up (nx_W X).2.2.1 (nx_S X 0) s, (nx_W X).2.2.2)) (U := []) h ⟨nm_okS_add h.1.1 (by omega) (by omega) (by omega) (by omega), ⟨fun i a d => ?_, fun i j a d a' d' => ?_⟩, ?_, w.2⟩ ⟨Nat.zero_le _, fun u hu => by cases hu⟩)
      · rw [e0] at d ⊢
        rw [e71 i a]
        have pw : (2 : Int) ^ (nx_S X 0 + 1).toNat = 2 ^ (nx_S X 0).toNat * 2 := by rw [show (nx_S X 0 + 1).toNat = (nx_S X 0).toNat + 1 by omega, Int.pow_succ]
        have pp : (0 : Int) < 2 ^ (nx_S X 0).toNat := Int.pow_pos (by decide)
        rw [pw]
        split
        · omega
        · have := hC.1 i a (by omega)
          have t : nx_S X (71 + i) < 2 ^ (nx_S X 0).toNat := this
          omega
      · rw [e0] at d d'
        rw [e71 i a, e71 j a']
        by_cases ei : i = nx_S X 0
        · rw [if_pos ei, nm_bit_0]
          by_cases ej : j = nx_S X 0
          · rw [if_pos ej, nm_bit_0]
          · rw [if_neg ej, ei, nm_bit_hi (ob j a' (by omega)).1 (hC.1 j a' (by omega))]
        · rw [if_neg ei]
          by_cases ej : j = nx_S X 0
          · rw [if_pos ej, nm_bit_0, ej, nm_bit_hi (ob i a (by omega)).1 (hC.1 i a (by omega))]
          · rw [if_neg ej]; exact hC.2 i j a (by omega) a' (by omega)
      · rw [e0]
        refine ⟨w.1.1, w.1.2.1, w.1.2.2.1, fun m hm => ?_, fun m x y => ?_, w.1.2.2.2.2.2⟩
        · have := w.1.2.2.2.1 m hm
          have t : 0 ≤ m ∧ m < nx_S X 0 := this
          omega
        · show 0 ≤ nm_up (nx_W X).2.2.1 (nx_S X 0) s m ∧ nm_up (nx_W X).2.2.1 (nx_S X 0) s m ≤ 30
          unfold nm_up
          split
          · omega
          · exact w.1.2.2.2.2.1 m x y
