/-! THE LAW'S LOOP -/
theorem nm_law_loop {L : Int} {xs : Int → Int} {Q : List am_V → am_M → Prop} (L0 : 0 ≤ L) (L1 : L ≤ 3072) (xi : ∀ j, am_i32 (xs j)) (hQ : ∀ M, M.1 ≤ 600000 → M.2.1 ≤ 7302250 → Q [(0, 1)] M) : ∀ (f : Nat) (i : Int) (X : nm_X) (M : am_M), 0 ≤ i → L - i < (f : Int) * 6 + 6 → nm_ok X → nm_C M X → nm_M M X → am_kd M (-2) = 110 → am_ln M (-2) = L → (∀ j, am_gt M (-2) j = xs j) → M.1 + 3 * ((f : Int) + 1) ≤ 600000 → M.2.1 + 600 * ((f : Int) + 1) ≤ 7302250 → am_WP 100 am_c262 18 [(2, -2), (2, 0), (2, 214), (0, i)] [] M Q := by
  intro f
  induction f with
  | zero =>
    intro i X M i0 hf hok hC hM kd ln gx m1 m2
    have hL := nm_C_L hC
    refine g_262_18 ⟨kd, fun _ => ⟨.inr rfl, hQ M (by omega) (by omega)⟩, fun h => ?_⟩
    rw [ln, am_w_id (x := L - 6) (by omega) (by omega)] at h
    omega
  | succ f ih =>
    intro i X M i0 hf hok hC hM kd ln gx m1 m2
    have hL := nm_C_L hC
    have kd1 : am_kd M 0 = 0 := congrArg Prod.fst (hL.1 0 (by decide) (by decide))
    have kd2 : am_kd M 214 = 8 := congrArg Prod.fst (hL.1 214 (by decide) (by decide))
    have hM1' : 247 ≤ M.1 := hL.2.2.1
    have nxt : L - 6 ≥ i → ∀ X' M1 M2, nm_Fg 3 600 nm_cAll M M1 → nm_Fr nm_mAll M1 M2 → nm_C M1 X' → nm_M M2 X' → nm_ok X' → am_WP 100 am_c262 18 [(2, -2), (2, 0), (2, 214), (0, am_w (i + 6))] [] M2 Q := by
      intro hi X' M1 M2 F1 F2 hC1 hM2 ok'
      rw [am_w_id (x := i + 6) (by omega) (by omega)]
      have a1 := F1.1
      have ty : M2.2.2.1 (-2) = M.2.2.1 (-2) := (F2.2.2.2.1 (-2) (by omega)).trans (F1.2.2.2.1 (-2) (by omega))
      have p1 := F1.2.1
      have p2 := F1.2.2.1
      have p3 := F2.2.1
      have p4 := F2.2.2.1
      refine ih (i + 6) X' M2 (by omega) (by omega) ok' (nm_C_fr hC1 F2 nm_mAll_c) hM2 ((congrArg Prod.fst ty).trans kd) ((congrArg Prod.snd ty).trans ln) (fun j => ?_) (by omega) (by omega)
      exact ((F2.2.2.2.2 (-2) j (by omega) (nm_in_no (by decide +kernel))).trans (F1.2.2.2.2 (-2) j (by omega) (nm_in_no (by decide +kernel)))).trans (gx j)
    have gs : ∀ {M1}, nm_Fg 3 600 nm_cAll M M1 → ∀ j, am_gt M1 (-2) j = am_gt M (-2) j := fun F1 j => F1.2.2.2.2 (-2) j (by omega) (nm_in_no (by decide +kernel))
    have keep : ∀ {M1}, nm_Fg 3 600 nm_cAll M M1 → am_kd M1 (-2) = 110 ∧ am_ln M1 (-2) = L ∧ am_kd M1 214 = 8 := fun F1 => ⟨(congrArg Prod.fst (F1.2.2.2.1 (-2) (by omega))).trans kd, (congrArg Prod.snd (F1.2.2.2.1 (-2) (by omega))).trans ln, (congrArg Prod.fst (F1.2.2.2.1 214 (by omega))).trans kd2⟩
    refine g_262_18 ⟨kd, fun _ => ⟨.inr rfl, hQ M (by omega) (by omega)⟩, fun h => ?_⟩
    have hi : L - 6 ≥ i := by rw [ln, am_w_id (x := L - 6) (by omega) (by omega)] at h; omega
    have nxt := nxt hi
    have bb : ∀ j, 0 ≤ j → j ≤ 5 → 0 ≤ am_w (i + j) ∧ am_w (i + j) < am_ln M (-2) := fun j j0 j1 => by rw [ln, am_w_id (x := i + j) (by omega) (by omega)]; omega
    obtain ⟨b1, c1⟩ := bb 1 (by decide) (by decide)
    obtain ⟨b2, c2⟩ := bb 2 (by decide) (by decide)
    obtain ⟨b3, c3⟩ := bb 3 (by decide) (by decide)
    obtain ⟨b4, c4⟩ := bb 4 (by decide) (by decide)
    obtain ⟨b5, c5⟩ := bb 5 (by decide) (by decide)
    have xi : ∀ j, am_i32 (am_gt M (-2) j) := fun j => by rw [gx]; exact xi j
    refine ⟨kd, i0, by omega, ?_⟩
    refine ⟨fun _ => ?_, fun _ => ?_⟩
    · refine ⟨kd, b1, c1, kd, b2, c2, kd, b3, c3, kd1, by decide, nmp_1 (d := 99) (hd := by decide) (hv := xi _) (hC := hC) (hQ := fun M1 F1 hC1 => ?_)⟩
      have hM1 := nm_M_fr hok hM F1 nm_cAll_m
      obtain ⟨kd', ln', kd2'⟩ := keep F1
      have cc := fun j (h : am_w (i + j) < am_ln M (-2)) => (show am_w (i + j) < am_ln M1 (-2) by rw [ln', ← ln]; exact h)
      refine g_262_235 ⟨kd', b1, cc 1 c1, kd', b2, cc 2 c2, kd', b3, cc 3 c3, kd2', by decide, ?_⟩
      rw [gs F1 (am_w (i + 1)), gs F1 (am_w (i + 2)), gs F1 (am_w (i + 3))]
      exact nmq_1 (d := 99) (hd := by decide) (hv := xi _) (hok := hok) (hM := hM1) (hQ := fun M2 F2 hM2 => g_262_254 ⟨fun _ => nxt _ M1 M2 F1 F2 hC1 hM2 (nm_ok_1 hok), fun c => absurd rfl c⟩)
    refine ⟨fun _ => ?_, fun _ => ?_⟩
    · refine ⟨kd, b1, c1, kd, b2, c2, kd1, by decide, nmp_2 (d := 99) (hd := by decide) (hk := xi _) (hC := hC) (hok := hok) (hQ := fun M1 F1 hC1 => ?_)⟩
      have hM1 := nm_M_fr hok hM F1 nm_cAll_m
      obtain ⟨kd', ln', kd2'⟩ := keep F1
      have cc := fun j (h : am_w (i + j) < am_ln M (-2)) => (show am_w (i + j) < am_ln M1 (-2) by rw [ln', ← ln]; exact h)
      refine g_262_273 ⟨kd', b1, cc 1 c1, kd', b2, cc 2 c2, kd2', by decide, ?_⟩
      rw [gs F1 (am_w (i + 1)), gs F1 (am_w (i + 2))]
      exact nmq_2 (d := 99) (hd := by decide) (hk := xi _) (hok := hok) (hM := hM1) (hQ := fun M2 F2 hM2 => g_262_287 ⟨fun _ => nxt _ M1 M2 F1 F2 hC1 hM2 (hok), fun c => absurd rfl c⟩)
    refine ⟨fun _ => ?_, fun _ => ?_⟩
    · refine ⟨kd, b1, c1, kd1, by decide, nmp_3 (d := 99) (hC := hC) (hQ := fun M1 F1 hC1 => ?_)⟩
      have hM1 := nm_M_fr hok hM F1 nm_cAll_m
      obtain ⟨kd', ln', kd2'⟩ := keep F1
      have cc := fun j (h : am_w (i + j) < am_ln M (-2)) => (show am_w (i + j) < am_ln M1 (-2) by rw [ln', ← ln]; exact h)
      refine g_262_301 ⟨kd', b1, cc 1 c1, kd2', by decide, ?_⟩
      rw [gs F1 (am_w (i + 1))]
      exact nmq_3 (d := 99) (hd := by decide) (hok := hok) (hM := hM1) (hQ := fun M2 F2 hM2 => g_262_310 ⟨fun _ => nxt _ M1 M2 F1 F2 hC1 hM2 (hok), fun c => absurd rfl c⟩)
    refine ⟨fun _ => ?_, fun _ => ?_⟩
    · refine ⟨kd, b1, c1, kd, b2, c2, kd, b3, c3, kd, b4, c4, kd1, by decide, nmp_4 (d := 99) (hd := by decide) (hC := hC) (hok := hok) (hQ := fun M1 F1 hC1 => ?_)⟩
      have hM1 := nm_M_fr hok hM F1 nm_cAll_m
      obtain ⟨kd', ln', kd2'⟩ := keep F1
      have cc := fun j (h : am_w (i + j) < am_ln M (-2)) => (show am_w (i + j) < am_ln M1 (-2) by rw [ln', ← ln]; exact h)
      refine g_262_339 ⟨kd', b1, cc 1 c1, kd', b2, cc 2 c2, kd', b3, cc 3 c3, kd', b4, cc 4 c4, kd2', by decide, ?_⟩
      rw [gs F1 (am_w (i + 1)), gs F1 (am_w (i + 2)), gs F1 (am_w (i + 3)), gs F1 (am_w (i + 4))]
      exact nmq_4 (d := 99) (hd := by decide) (hok := hok) (hM := hM1) (hQ := fun M2 F2 hM2 => g_262_363 ⟨fun _ => nxt _ M1 M2 F1 F2 hC1 hM2 (hok), fun c => absurd rfl c⟩)
    refine ⟨fun _ => ?_, fun _ => ?_⟩
    · refine ⟨kd, b1, c1, kd, b2, c2, kd, b3, c3, kd1, by decide, nmp_5 (d := 99) (hd := by decide) (hC := hC) (hQ := fun M1 F1 hC1 => ?_)⟩
      have hM1 := nm_M_fr hok hM F1 nm_cAll_m
      obtain ⟨kd', ln', kd2'⟩ := keep F1
      have cc := fun j (h : am_w (i + j) < am_ln M (-2)) => (show am_w (i + j) < am_ln M1 (-2) by rw [ln', ← ln]; exact h)
      refine g_262_387 ⟨kd', b1, cc 1 c1, kd', b2, cc 2 c2, kd', b3, cc 3 c3, kd2', by decide, ?_⟩
      rw [gs F1 (am_w (i + 1)), gs F1 (am_w (i + 2)), gs F1 (am_w (i + 3))]
      exact nmq_5 (d := 99) (hd := by decide) (hok := hok) (hM := hM1) (hQ := fun M2 F2 hM2 => g_262_406 ⟨fun _ => nxt _ M1 M2 F1 F2 hC1 hM2 (nm_ok_5 hok), fun c => absurd rfl c⟩)
    refine ⟨fun _ => ?_, fun _ => ?_⟩
    · refine ⟨kd, b1, c1, kd, b2, c2, kd1, by decide, nmp_6 (d := 99) (hd := by decide) (hC := hC) (hok := hok) (hQ := fun M1 F1 hC1 => ?_)⟩
      have hM1 := nm_M_fr hok hM F1 nm_cAll_m
      obtain ⟨kd', ln', kd2'⟩ := keep F1
      have cc := fun j (h : am_w (i + j) < am_ln M (-2)) => (show am_w (i + j) < am_ln M1 (-2) by rw [ln', ← ln]; exact h)
      refine g_262_425 ⟨kd', b1, cc 1 c1, kd', b2, cc 2 c2, kd2', by decide, ?_⟩
      rw [gs F1 (am_w (i + 1)), gs F1 (am_w (i + 2))]
      exact nmq_6 (d := 99) (hd := by decide) (hok := hok) (hM := hM1) (hQ := fun M2 F2 hM2 => g_262_439 ⟨fun _ => nxt _ M1 M2 F1 F2 hC1 hM2 (hok), fun c => absurd rfl c⟩)
    refine ⟨fun _ => ?_, fun _ => ?_⟩
    · refine ⟨kd, b1, c1, kd, b2, c2, kd1, by decide, nmp_7 (d := 99) (hd := by decide) (hC := hC) (hQ := fun M1 F1 hC1 => ?_)⟩
      have hM1 := nm_M_fr hok hM F1 nm_cAll_m
      obtain ⟨kd', ln', kd2'⟩ := keep F1
      have cc := fun j (h : am_w (i + j) < am_ln M (-2)) => (show am_w (i + j) < am_ln M1 (-2) by rw [ln', ← ln]; exact h)
      refine g_262_458 ⟨kd', b1, cc 1 c1, kd', b2, cc 2 c2, kd2', by decide, ?_⟩
      rw [gs F1 (am_w (i + 1)), gs F1 (am_w (i + 2))]
      exact nmq_7 (d := 99) (hd := by decide) (hok := hok) (hM := hM1) (hQ := fun M2 F2 hM2 => g_262_472 ⟨fun _ => nxt _ M1 M2 F1 F2 hC1 hM2 (nm_ok_7 hok), fun c => absurd rfl c⟩)
    refine ⟨fun _ => ?_, fun _ => ?_⟩
    · refine ⟨kd, b1, c1, kd, b2, c2, kd1, by decide, nmp_8 (d := 99) (hd := by decide) (hC := hC) (hok := hok) (hQ := fun M1 F1 hC1 => ?_)⟩
      have hM1 := nm_M_fr hok hM F1 nm_cAll_m
      obtain ⟨kd', ln', kd2'⟩ := keep F1
      have cc := fun j (h : am_w (i + j) < am_ln M (-2)) => (show am_w (i + j) < am_ln M1 (-2) by rw [ln', ← ln]; exact h)
      refine g_262_491 ⟨kd', b1, cc 1 c1, kd', b2, cc 2 c2, kd2', by decide, ?_⟩
      rw [gs F1 (am_w (i + 1)), gs F1 (am_w (i + 2))]
      exact nmq_8 (d := 99) (hd := by decide) (hok := hok) (hM := hM1) (hQ := fun M2 F2 hM2 => g_262_505 ⟨fun _ => nxt _ M1 M2 F1 F2 hC1 hM2 (nm_ok_8 hok), fun c => absurd rfl c⟩)
    refine ⟨fun _ => ?_, fun _ => ?_⟩
    · refine ⟨kd, b1, c1, kd, b2, c2, kd, b3, c3, kd, b4, c4, kd, b5, c5, kd1, by decide, nmp_9 (d := 99) (hd := by decide) (hC := hC) (hok := hok) (hQ := fun M1 F1 hC1 => ?_)⟩
      have hM1 := nm_M_fr hok hM F1 nm_cAll_m
      obtain ⟨kd', ln', kd2'⟩ := keep F1
      have cc := fun j (h : am_w (i + j) < am_ln M (-2)) => (show am_w (i + j) < am_ln M1 (-2) by rw [ln', ← ln]; exact h)
      refine g_262_539 ⟨kd', b1, cc 1 c1, kd', b2, cc 2 c2, kd', b3, cc 3 c3, kd', b4, cc 4 c4, kd', b5, cc 5 c5, kd2', by decide, ?_⟩
      rw [gs F1 (am_w (i + 1)), gs F1 (am_w (i + 2)), gs F1 (am_w (i + 3)), gs F1 (am_w (i + 4)), gs F1 (am_w (i + 5))]
      exact nmq_9 (d := 99) (hd := by decide) (hok := hok) (hM := hM1) (hQ := fun M2 F2 hM2 => g_262_568 ⟨fun _ => nxt _ M1 M2 F1 F2 hC1 hM2 (nm_ok_9 hok), fun c => absurd rfl c⟩)
    refine ⟨fun _ => ?_, fun _ => ?_⟩
    · refine ⟨kd, b1, c1, kd1, by decide, nmp_10 (d := 99) (hC := hC) (hQ := fun M1 F1 hC1 => ?_)⟩
      have hM1 := nm_M_fr hok hM F1 nm_cAll_m
      obtain ⟨kd', ln', kd2'⟩ := keep F1
      have cc := fun j (h : am_w (i + j) < am_ln M (-2)) => (show am_w (i + j) < am_ln M1 (-2) by rw [ln', ← ln]; exact h)
      refine g_262_582 ⟨kd', b1, cc 1 c1, kd2', by decide, ?_⟩
      rw [gs F1 (am_w (i + 1))]
      exact nmq_10 (d := 99) (hok := hok) (hM := hM1) (hQ := fun M2 F2 hM2 => g_262_591 ⟨fun _ => nxt _ M1 M2 F1 F2 hC1 hM2 (nm_ok_10 hok), fun c => absurd rfl c⟩)
    refine ⟨fun _ => ?_, fun _ => ?_⟩
    · refine ⟨kd1, by decide, nmp_11 (d := 99) (hd := by decide) (hC := hC) (hok := hok) (hQ := fun M1 F1 hC1 => ?_)⟩
      have hM1 := nm_M_fr hok hM F1 nm_cAll_m
      obtain ⟨kd', ln', kd2'⟩ := keep F1
      refine g_262_600 ⟨kd2', by decide, ?_⟩
      exact nmq_11 (d := 99) (hd := by decide) (hok := hok) (hM := hM1) (hQ := fun M2 F2 hM2 => g_262_604 ⟨fun _ => nxt _ M1 M2 F1 F2 hC1 hM2 (nm_ok_11 hok), fun c => absurd rfl c⟩)
    refine ⟨fun _ => ?_, fun _ => ?_⟩
    · refine ⟨kd1, by decide, nmp_12 (d := 99) (hC := hC) (hQ := fun M1 F1 hC1 => ?_)⟩
      have hM1 := nm_M_fr hok hM F1 nm_cAll_m
      obtain ⟨kd', ln', kd2'⟩ := keep F1
      refine g_262_613 ⟨kd2', by decide, ?_⟩
      exact nmq_12 (d := 99) (hok := hok) (hM := hM1) (hQ := fun M2 F2 hM2 => g_262_617 ⟨fun _ => nxt _ M1 M2 F1 F2 hC1 hM2 (hok), fun c => absurd rfl c⟩)
    refine ⟨fun _ => ?_, fun _ => ?_⟩
    · refine ⟨kd1, by decide, nmp_13 (d := 99) (hd := by decide) (hC := hC) (hok := hok) (hQ := fun M1 F1 hC1 => ?_)⟩
      have hM1 := nm_M_fr hok hM F1 nm_cAll_m
      obtain ⟨kd', ln', kd2'⟩ := keep F1
      refine g_262_626 ⟨kd2', by decide, ?_⟩
      exact nmq_13 (d := 99) (hd := by decide) (hok := hok) (hM := hM1) (hQ := fun M2 F2 hM2 => g_262_630 ⟨fun _ => nxt _ M1 M2 F1 F2 hC1 hM2 (nm_ok_13 hok), fun c => absurd rfl c⟩)
    refine ⟨fun _ => ?_, fun _ => ?_⟩
    · refine ⟨kd1, by decide, nmp_14 (d := 99) (hd := by decide) (hC := hC) (hok := hok) (hQ := fun M1 F1 hC1 => ?_)⟩
      have hM1 := nm_M_fr hok hM F1 nm_cAll_m
      obtain ⟨kd', ln', kd2'⟩ := keep F1
      refine g_262_639 ⟨kd2', by decide, ?_⟩
      exact nmq_14 (d := 99) (hd := by decide) (hok := hok) (hM := hM1) (hQ := fun M2 F2 hM2 => g_262_643 ⟨fun _ => nxt _ M1 M2 F1 F2 hC1 hM2 (nm_ok_14 hok), fun c => absurd rfl c⟩)
    refine ⟨fun _ => ?_, fun _ => ?_⟩
    · refine ⟨kd1, by decide, nmp_15 (d := 99) (hC := hC) (hQ := fun M1 F1 hC1 => ?_)⟩
      have hM1 := nm_M_fr hok hM F1 nm_cAll_m
      obtain ⟨kd', ln', kd2'⟩ := keep F1
      refine g_262_652 ⟨kd2', by decide, ?_⟩
      exact nmq_15 (d := 99) (hok := hok) (hM := hM1) (hQ := fun M2 F2 hM2 => g_262_656 ⟨fun _ => nxt _ M1 M2 F1 F2 hC1 hM2 (hok), fun c => absurd rfl c⟩)
    refine ⟨fun _ => ?_, fun _ => ?_⟩
    · refine ⟨kd1, by decide, nmp_16 (d := 99) (hC := hC) (hQ := fun M1 F1 hC1 => ?_)⟩
      have hM1 := nm_M_fr hok hM F1 nm_cAll_m
      obtain ⟨kd', ln', kd2'⟩ := keep F1
      refine g_262_665 ⟨kd2', by decide, ?_⟩
      exact nmq_16 (d := 99) (hok := hok) (hM := hM1) (hQ := fun M2 F2 hM2 => g_262_669 ⟨fun _ => nxt _ M1 M2 F1 F2 hC1 hM2 (hok), fun c => absurd rfl c⟩)
    refine ⟨fun _ => ?_, fun _ => ?_⟩
    · refine ⟨kd, b1, c1, kd1, by decide, nmp_17 (d := 99) (hd := by decide) (hC := hC) (hQ := fun M1 F1 hC1 => ?_)⟩
      have hM1 := nm_M_fr hok hM F1 nm_cAll_m
      obtain ⟨kd', ln', kd2'⟩ := keep F1
      have cc := fun j (h : am_w (i + j) < am_ln M (-2)) => (show am_w (i + j) < am_ln M1 (-2) by rw [ln', ← ln]; exact h)
      refine g_262_683 ⟨kd', b1, cc 1 c1, kd2', by decide, ?_⟩
      rw [gs F1 (am_w (i + 1))]
      exact nmq_17 (d := 99) (hd := by decide) (hok := hok) (hM := hM1) (hQ := fun M2 F2 hM2 => g_262_692 ⟨fun _ => nxt _ M1 M2 F1 F2 hC1 hM2 (nm_ok_17 hok), fun c => absurd rfl c⟩)
    refine ⟨fun _ => ?_, fun _ => ?_⟩
    · refine ⟨kd, b1, c1, kd1, by decide, nmp_18 (d := 99) (hd := by decide) (hC := hC) (hok := hok) (hQ := fun M1 F1 hC1 => ?_)⟩
      have hM1 := nm_M_fr hok hM F1 nm_cAll_m
      obtain ⟨kd', ln', kd2'⟩ := keep F1
      have cc := fun j (h : am_w (i + j) < am_ln M (-2)) => (show am_w (i + j) < am_ln M1 (-2) by rw [ln', ← ln]; exact h)
      refine g_262_706 ⟨kd', b1, cc 1 c1, kd2', by decide, ?_⟩
      rw [gs F1 (am_w (i + 1))]
      exact nmq_18 (d := 99) (hd := by decide) (hok := hok) (hM := hM1) (hQ := fun M2 F2 hM2 => g_262_715 ⟨fun _ => nxt _ M1 M2 F1 F2 hC1 hM2 (nm_ok_sch (by decide) hok), fun c => absurd rfl c⟩)
    refine ⟨fun _ => ?_, fun _ => ?_⟩
    · refine ⟨kd, b1, c1, kd1, by decide, nmp_19 (d := 99) (hd := by decide) (hC := hC) (hok := hok) (hQ := fun M1 F1 hC1 => ?_)⟩
      have hM1 := nm_M_fr hok hM F1 nm_cAll_m
      obtain ⟨kd', ln', kd2'⟩ := keep F1
      have cc := fun j (h : am_w (i + j) < am_ln M (-2)) => (show am_w (i + j) < am_ln M1 (-2) by rw [ln', ← ln]; exact h)
      refine g_262_729 ⟨kd', b1, cc 1 c1, kd2', by decide, ?_⟩
      rw [gs F1 (am_w (i + 1))]
      exact nmq_19 (d := 99) (hd := by decide) (hok := hok) (hM := hM1) (hQ := fun M2 F2 hM2 => g_262_738 ⟨fun _ => nxt _ M1 M2 F1 F2 hC1 hM2 (nm_ok_sch (by decide) hok), fun c => absurd rfl c⟩)
    refine ⟨fun _ => ?_, fun _ => ?_⟩
    · refine ⟨kd, b1, c1, kd, b2, c2, kd1, by decide, nmp_20 (d := 99) (hd := by decide) (hC := hC) (hok := hok) (hQ := fun M1 F1 hC1 => ?_)⟩
      have hM1 := nm_M_fr hok hM F1 nm_cAll_m
      obtain ⟨kd', ln', kd2'⟩ := keep F1
      have cc := fun j (h : am_w (i + j) < am_ln M (-2)) => (show am_w (i + j) < am_ln M1 (-2) by rw [ln', ← ln]; exact h)
      refine g_262_757 ⟨kd', b1, cc 1 c1, kd', b2, cc 2 c2, kd2', by decide, ?_⟩
      rw [gs F1 (am_w (i + 1)), gs F1 (am_w (i + 2))]
      exact nmq_20 (d := 99) (hd := by decide) (hok := hok) (hM := hM1) (hQ := fun M2 F2 hM2 => g_262_771 ⟨fun _ => nxt _ M1 M2 F1 F2 hC1 hM2 (nm_ok_sch (by decide) hok), fun c => absurd rfl c⟩)
    refine ⟨fun _ => ?_, fun _ => ?_⟩
    · refine ⟨kd1, by decide, nmp_21 (d := 99) (hd := by decide) (hC := hC) (hok := hok) (hQ := fun M1 F1 hC1 => ?_)⟩
      have hM1 := nm_M_fr hok hM F1 nm_cAll_m
      obtain ⟨kd', ln', kd2'⟩ := keep F1
      refine g_262_780 ⟨kd2', by decide, ?_⟩
      exact nmq_21 (d := 99) (hd := by decide) (hok := hok) (hM := hM1) (hQ := fun M2 F2 hM2 => g_262_784 ⟨fun _ => nxt _ M1 M2 F1 F2 hC1 hM2 (nm_ok_sch (by decide) hok), fun c => absurd rfl c⟩)
    refine ⟨fun _ => ?_, fun _ => ?_⟩
    · refine ⟨kd1, by decide, nmp_22 (d := 99) (hd := by decide) (hC := hC) (hok := hok) (hQ := fun M1 F1 hC1 => ?_)⟩
      have hM1 := nm_M_fr hok hM F1 nm_cAll_m
      obtain ⟨kd', ln', kd2'⟩ := keep F1
      refine g_262_793 ⟨kd2', by decide, ?_⟩
      exact nmq_22 (d := 99) (hd := by decide) (hok := hok) (hM := hM1) (hQ := fun M2 F2 hM2 => g_262_797 ⟨fun _ => nxt _ M1 M2 F1 F2 hC1 hM2 (nm_ok_22 hok), fun c => absurd rfl c⟩)
    refine ⟨fun _ => ?_, fun _ => ?_⟩
    · refine ⟨kd, b1, c1, kd1, by decide, nmp_23 (d := 99) (hd := by decide) (hC := hC) (hok := hok) (hQ := fun M1 F1 hC1 => ?_)⟩
      have hM1 := nm_M_fr hok hM F1 nm_cAll_m
      obtain ⟨kd', ln', kd2'⟩ := keep F1
      have cc := fun j (h : am_w (i + j) < am_ln M (-2)) => (show am_w (i + j) < am_ln M1 (-2) by rw [ln', ← ln]; exact h)
      refine g_262_811 ⟨kd', b1, cc 1 c1, kd2', by decide, ?_⟩
      rw [gs F1 (am_w (i + 1))]
      exact nmq_23 (d := 99) (hd := by decide) (hok := hok) (hM := hM1) (hQ := fun M2 F2 hM2 => g_262_820 ⟨fun _ => nxt _ M1 M2 F1 F2 hC1 hM2 (hok), fun c => absurd rfl c⟩)
    refine ⟨fun _ => ?_, fun _ => ?_⟩
    · refine ⟨kd, b1, c1, kd, b2, c2, kd1, by decide, nmp_24 (d := 99) (hd := by decide) (hC := hC) (hok := hok) (hQ := fun M1 F1 hC1 => ?_)⟩
      have hM1 := nm_M_fr hok hM F1 nm_cAll_m
      obtain ⟨kd', ln', kd2'⟩ := keep F1
      have cc := fun j (h : am_w (i + j) < am_ln M (-2)) => (show am_w (i + j) < am_ln M1 (-2) by rw [ln', ← ln]; exact h)
      refine g_262_839 ⟨kd', b1, cc 1 c1, kd', b2, cc 2 c2, kd2', by decide, ?_⟩
      rw [gs F1 (am_w (i + 1)), gs F1 (am_w (i + 2))]
      exact nmq_24 (d := 99) (hd := by decide) (hok := hok) (hM := hM1) (hQ := fun M2 F2 hM2 => g_262_853 ⟨fun _ => nxt _ M1 M2 F1 F2 hC1 hM2 (hok), fun c => absurd rfl c⟩)
    refine ⟨fun _ => ?_, fun _ => ?_⟩
    · refine ⟨kd, b1, c1, kd1, by decide, nmp_25 (d := 99) (hd := by decide) (hC := hC) (hok := hok) (hQ := fun M1 F1 hC1 => ?_)⟩
      have hM1 := nm_M_fr hok hM F1 nm_cAll_m
      obtain ⟨kd', ln', kd2'⟩ := keep F1
      have cc := fun j (h : am_w (i + j) < am_ln M (-2)) => (show am_w (i + j) < am_ln M1 (-2) by rw [ln', ← ln]; exact h)
      refine g_262_867 ⟨kd', b1, cc 1 c1, kd2', by decide, ?_⟩
      rw [gs F1 (am_w (i + 1))]
      exact nmq_25 (d := 99) (hd := by decide) (hok := hok) (hM := hM1) (hQ := fun M2 F2 hM2 => g_262_876 ⟨fun _ => nxt _ M1 M2 F1 F2 hC1 hM2 (hok), fun c => absurd rfl c⟩)
    refine ⟨fun _ => ?_, fun _ => ?_⟩
    · refine ⟨kd, b1, c1, kd, b2, c2, kd, b3, c3, kd1, by decide, nmp_26 (d := 99) (hd := by decide) (hC := hC) (hQ := fun M1 F1 hC1 => ?_)⟩
      have hM1 := nm_M_fr hok hM F1 nm_cAll_m
      obtain ⟨kd', ln', kd2'⟩ := keep F1
      have cc := fun j (h : am_w (i + j) < am_ln M (-2)) => (show am_w (i + j) < am_ln M1 (-2) by rw [ln', ← ln]; exact h)
      refine g_262_900 ⟨kd', b1, cc 1 c1, kd', b2, cc 2 c2, kd', b3, cc 3 c3, kd2', by decide, ?_⟩
      rw [gs F1 (am_w (i + 1)), gs F1 (am_w (i + 2)), gs F1 (am_w (i + 3))]
      exact nmq_26 (d := 99) (hd := by decide) (hok := hok) (hM := hM1) (hQ := fun M2 F2 hM2 => g_262_919 ⟨fun _ => nxt _ M1 M2 F1 F2 hC1 hM2 (nm_ok_26 hok), fun c => absurd rfl c⟩)
    refine ⟨fun _ => ?_, fun _ => ?_⟩
    · refine ⟨kd1, by decide, nmp_27 (d := 99) (hC := hC) (hQ := fun M1 F1 hC1 => ?_)⟩
      have hM1 := nm_M_fr hok hM F1 nm_cAll_m
      obtain ⟨kd', ln', kd2'⟩ := keep F1
      refine g_262_928 ⟨kd2', by decide, ?_⟩
      exact nmq_27 (d := 99) (hok := hok) (hM := hM1) (hQ := fun M2 F2 hM2 => g_262_932 ⟨fun _ => nxt _ M1 M2 F1 F2 hC1 hM2 (nm_ok_27 hok), fun c => absurd rfl c⟩)
    refine ⟨fun _ => ?_, fun _ => ?_⟩
    · refine ⟨kd, b1, c1, kd, b2, c2, kd, b3, c3, kd1, by decide, nmp_28 (d := 99) (hd := by decide) (hC := hC) (hok := hok) (hQ := fun M1 F1 hC1 => ?_)⟩
      have hM1 := nm_M_fr hok hM F1 nm_cAll_m
      obtain ⟨kd', ln', kd2'⟩ := keep F1
      have cc := fun j (h : am_w (i + j) < am_ln M (-2)) => (show am_w (i + j) < am_ln M1 (-2) by rw [ln', ← ln]; exact h)
      refine g_262_956 ⟨kd', b1, cc 1 c1, kd', b2, cc 2 c2, kd', b3, cc 3 c3, kd2', by decide, ?_⟩
      rw [gs F1 (am_w (i + 1)), gs F1 (am_w (i + 2)), gs F1 (am_w (i + 3))]
      exact nmq_28 (d := 99) (hd := by decide) (hw := xi _) (hok := hok) (hM := hM1) (hQ := fun M2 F2 hM2 => g_262_975 ⟨fun _ => nxt _ M1 M2 F1 F2 hC1 hM2 (hok), fun c => absurd rfl c⟩)
    refine ⟨fun _ => ?_, fun _ => ?_⟩
    · refine ⟨kd, b1, c1, kd, b2, c2, kd1, by decide, nmp_29 (d := 99) (hd := by decide) (hC := hC) (hok := hok) (hQ := fun M1 F1 hC1 => ?_)⟩
      have hM1 := nm_M_fr hok hM F1 nm_cAll_m
      obtain ⟨kd', ln', kd2'⟩ := keep F1
      have cc := fun j (h : am_w (i + j) < am_ln M (-2)) => (show am_w (i + j) < am_ln M1 (-2) by rw [ln', ← ln]; exact h)
      refine g_262_994 ⟨kd', b1, cc 1 c1, kd', b2, cc 2 c2, kd2', by decide, ?_⟩
      rw [gs F1 (am_w (i + 1)), gs F1 (am_w (i + 2))]
      exact nmq_29 (d := 99) (hd := by decide) (hok := hok) (hM := hM1) (hQ := fun M2 F2 hM2 => g_262_1008 ⟨fun _ => nxt _ M1 M2 F1 F2 hC1 hM2 (hok), fun c => absurd rfl c⟩)
    refine ⟨fun _ => ?_, fun _ => ?_⟩
    · refine ⟨kd, b1, c1, kd, b2, c2, kd, b3, c3, kd, b4, c4, kd1, by decide, nmp_30 (d := 99) (hd := by decide) (hC := hC) (hok := hok) (hQ := fun M1 F1 hC1 => ?_)⟩
      have hM1 := nm_M_fr hok hM F1 nm_cAll_m
      obtain ⟨kd', ln', kd2'⟩ := keep F1
      have cc := fun j (h : am_w (i + j) < am_ln M (-2)) => (show am_w (i + j) < am_ln M1 (-2) by rw [ln', ← ln]; exact h)
      refine g_262_1037 ⟨kd', b1, cc 1 c1, kd', b2, cc 2 c2, kd', b3, cc 3 c3, kd', b4, cc 4 c4, kd2', by decide, ?_⟩
      rw [gs F1 (am_w (i + 1)), gs F1 (am_w (i + 2)), gs F1 (am_w (i + 3)), gs F1 (am_w (i + 4))]
      exact nmq_30 (d := 99) (hd := by decide) (hok := hok) (hM := hM1) (hQ := fun M2 F2 hM2 => g_262_1061 ⟨fun _ => nxt _ M1 M2 F1 F2 hC1 hM2 (hok), fun c => absurd rfl c⟩)
    refine ⟨fun _ => ?_, fun _ => ?_⟩
    · refine ⟨kd, b1, c1, kd1, by decide, nmp_31 (d := 99) (hd := by decide) (hC := hC) (hQ := fun M1 F1 hC1 => ?_)⟩
      have hM1 := nm_M_fr hok hM F1 nm_cAll_m
      obtain ⟨kd', ln', kd2'⟩ := keep F1
      have cc := fun j (h : am_w (i + j) < am_ln M (-2)) => (show am_w (i + j) < am_ln M1 (-2) by rw [ln', ← ln]; exact h)
      refine g_262_1075 ⟨kd', b1, cc 1 c1, kd2', by decide, ?_⟩
      rw [gs F1 (am_w (i + 1))]
      exact nmq_31 (d := 99) (hd := by decide) (hok := hok) (hM := hM1) (hQ := fun M2 F2 hM2 => g_262_1084 ⟨fun _ => nxt _ M1 M2 F1 F2 hC1 hM2 (hok), fun c => absurd rfl c⟩)
    refine ⟨fun _ => ?_, fun _ => ?_⟩
    · refine ⟨kd, b1, c1, kd1, by decide, nmp_32 (d := 99) (hd := by decide) (hC := hC) (hok := hok) (hQ := fun M1 F1 hC1 => ?_)⟩
      have hM1 := nm_M_fr hok hM F1 nm_cAll_m
      obtain ⟨kd', ln', kd2'⟩ := keep F1
      have cc := fun j (h : am_w (i + j) < am_ln M (-2)) => (show am_w (i + j) < am_ln M1 (-2) by rw [ln', ← ln]; exact h)
      refine g_262_1098 ⟨kd', b1, cc 1 c1, kd2', by decide, ?_⟩
      rw [gs F1 (am_w (i + 1))]
      exact nmq_32 (d := 99) (hd := by decide) (hok := hok) (hM := hM1) (hQ := fun M2 F2 hM2 => g_262_1107 ⟨fun _ => nxt _ M1 M2 F1 F2 hC1 hM2 (hok), fun c => absurd rfl c⟩)
    refine ⟨fun _ => ?_, fun _ => ?_⟩
    · refine ⟨kd1, by decide, nmp_33 (d := 99) (hd := by decide) (hC := hC) (hok := hok) (hQ := fun M1 F1 hC1 => ?_)⟩
      have hM1 := nm_M_fr hok hM F1 nm_cAll_m
      obtain ⟨kd', ln', kd2'⟩ := keep F1
      refine g_262_1116 ⟨kd2', by decide, ?_⟩
      exact nmq_33 (d := 99) (hd := by decide) (hok := hok) (hM := hM1) (hQ := fun M2 F2 hM2 => g_262_1120 ⟨fun _ => nxt _ M1 M2 F1 F2 hC1 hM2 (hok), fun c => absurd rfl c⟩)
    refine ⟨fun _ => ?_, fun _ => ?_⟩
    · refine ⟨kd, b1, c1, kd1, by decide, nmp_34 (d := 99) (hd := by decide) (hC := hC) (hok := hok) (hQ := fun M1 F1 hC1 => ?_)⟩
      have hM1 := nm_M_fr hok hM F1 nm_cAll_m
      obtain ⟨kd', ln', kd2'⟩ := keep F1
      have cc := fun j (h : am_w (i + j) < am_ln M (-2)) => (show am_w (i + j) < am_ln M1 (-2) by rw [ln', ← ln]; exact h)
      refine g_262_1134 ⟨kd', b1, cc 1 c1, kd2', by decide, ?_⟩
      rw [gs F1 (am_w (i + 1))]
      exact nmq_34 (d := 99) (hd := by decide) (hok := hok) (hM := hM1) (hQ := fun M2 F2 hM2 => g_262_1143 ⟨fun _ => nxt _ M1 M2 F1 F2 hC1 hM2 (hok), fun c => absurd rfl c⟩)
    refine ⟨fun _ => ?_, fun _ => ?_⟩
    · refine ⟨kd, b1, c1, kd, b2, c2, kd1, by decide, nmp_35 (d := 99) (hd := by decide) (hC := hC) (hok := hok) (hQ := fun M1 F1 hC1 => ?_)⟩
      have hM1 := nm_M_fr hok hM F1 nm_cAll_m
      obtain ⟨kd', ln', kd2'⟩ := keep F1
      have cc := fun j (h : am_w (i + j) < am_ln M (-2)) => (show am_w (i + j) < am_ln M1 (-2) by rw [ln', ← ln]; exact h)
      refine g_262_1162 ⟨kd', b1, cc 1 c1, kd', b2, cc 2 c2, kd2', by decide, ?_⟩
      rw [gs F1 (am_w (i + 1)), gs F1 (am_w (i + 2))]
      exact nmq_35 (d := 99) (hd := by decide) (hok := hok) (hM := hM1) (hQ := fun M2 F2 hM2 => g_262_1176 ⟨fun _ => nxt _ M1 M2 F1 F2 hC1 hM2 (hok), fun c => absurd (by unfold am_lcmp; rw [if_neg (Int.lt_irrefl _), if_pos rfl]) c⟩)
    refine ⟨fun _ => ?_, fun _ => ?_⟩
    · refine ⟨kd, b1, c1, kd1, by decide, nmp_36 (d := 99) (hd := by decide) (hC := hC) (hok := hok) (hQ := fun M1 F1 hC1 => ?_)⟩
      have hM1 := nm_M_fr hok hM F1 nm_cAll_m
      obtain ⟨kd', ln', kd2'⟩ := keep F1
      have cc := fun j (h : am_w (i + j) < am_ln M (-2)) => (show am_w (i + j) < am_ln M1 (-2) by rw [ln', ← ln]; exact h)
      refine g_262_1191 ⟨kd', b1, cc 1 c1, kd2', by decide, ?_⟩
      rw [gs F1 (am_w (i + 1))]
      exact nmq_36 (d := 99) (hd := by decide) (hok := hok) (hM := hM1) (hQ := fun M2 F2 hM2 => g_262_1200 ⟨fun _ => nxt _ M1 M2 F1 F2 hC1 hM2 (hok), fun c => absurd rfl c⟩)
    refine ⟨fun _ => ?_, fun _ => ?_⟩
    · refine ⟨kd, b1, c1, kd, b2, c2, kd1, by decide, nmp_37 (d := 99) (hd := by decide) (hC := hC) (hok := hok) (hQ := fun M1 F1 hC1 => ?_)⟩
      have hM1 := nm_M_fr hok hM F1 nm_cAll_m
      obtain ⟨kd', ln', kd2'⟩ := keep F1
      have cc := fun j (h : am_w (i + j) < am_ln M (-2)) => (show am_w (i + j) < am_ln M1 (-2) by rw [ln', ← ln]; exact h)
      refine g_262_1219 ⟨kd', b1, cc 1 c1, kd', b2, cc 2 c2, kd2', by decide, ?_⟩
      rw [gs F1 (am_w (i + 1)), gs F1 (am_w (i + 2))]
      exact nmq_37 (d := 99) (hd := by decide) (hok := hok) (hM := hM1) (hQ := fun M2 F2 hM2 => g_262_1233 ⟨fun _ => nxt _ M1 M2 F1 F2 hC1 hM2 (nm_ok_37 hok), fun c => absurd rfl c⟩)
    refine ⟨fun _ => ?_, fun _ => ?_⟩
    · refine ⟨kd, b1, c1, kd, b2, c2, kd1, by decide, nmp_38 (d := 99) (hd := by decide) (hC := hC) (hok := hok) (hQ := fun M1 F1 hC1 => ?_)⟩
      have hM1 := nm_M_fr hok hM F1 nm_cAll_m
      obtain ⟨kd', ln', kd2'⟩ := keep F1
      have cc := fun j (h : am_w (i + j) < am_ln M (-2)) => (show am_w (i + j) < am_ln M1 (-2) by rw [ln', ← ln]; exact h)
      refine g_262_1252 ⟨kd', b1, cc 1 c1, kd', b2, cc 2 c2, kd2', by decide, ?_⟩
      rw [gs F1 (am_w (i + 1)), gs F1 (am_w (i + 2))]
      exact nmq_38 (d := 99) (hd := by decide) (hok := hok) (hM := hM1) (hQ := fun M2 F2 hM2 => g_262_1266 ⟨fun _ => nxt _ M1 M2 F1 F2 hC1 hM2 (hok), fun c => absurd rfl c⟩)
    refine ⟨fun _ => ?_, fun _ => ?_⟩
    · refine ⟨kd, b1, c1, kd1, by decide, nmp_39 (d := 99) (hd := by decide) (hC := hC) (hQ := fun M1 F1 hC1 => ?_)⟩
      have hM1 := nm_M_fr hok hM F1 nm_cAll_m
      obtain ⟨kd', ln', kd2'⟩ := keep F1
      have cc := fun j (h : am_w (i + j) < am_ln M (-2)) => (show am_w (i + j) < am_ln M1 (-2) by rw [ln', ← ln]; exact h)
      refine g_262_1280 ⟨kd', b1, cc 1 c1, kd2', by decide, ?_⟩
      rw [gs F1 (am_w (i + 1))]
      exact nmq_39 (d := 99) (hd := by decide) (hok := hok) (hM := hM1) (hQ := fun M2 F2 hM2 => g_262_1289 ⟨fun _ => nxt _ M1 M2 F1 F2 hC1 hM2 (nm_ok_39 hok), fun c => absurd rfl c⟩)
    refine ⟨fun _ => ?_, fun _ => ?_⟩
    · refine ⟨kd, b1, c1, kd1, by decide, nmp_40 (d := 99) (hd := by decide) (hC := hC) (hok := hok) (hQ := fun M1 F1 hC1 => ?_)⟩
      have hM1 := nm_M_fr hok hM F1 nm_cAll_m
      obtain ⟨kd', ln', kd2'⟩ := keep F1
      have cc := fun j (h : am_w (i + j) < am_ln M (-2)) => (show am_w (i + j) < am_ln M1 (-2) by rw [ln', ← ln]; exact h)
      refine g_262_1303 ⟨kd', b1, cc 1 c1, kd2', by decide, ?_⟩
      rw [gs F1 (am_w (i + 1))]
      exact nmq_40 (d := 99) (hd := by decide) (hok := hok) (hM := hM1) (hQ := fun M2 F2 hM2 => g_262_1312 ⟨fun _ => nxt _ M1 M2 F1 F2 hC1 hM2 (nm_ok_40 hok), fun c => absurd rfl c⟩)
    refine ⟨fun _ => ?_, fun _ => ?_⟩
    · refine ⟨kd, b1, c1, kd1, by decide, nmp_41 (d := 99) (hd := by decide) (hC := hC) (hok := hok) (hQ := fun M1 F1 hC1 => ?_)⟩
      have hM1 := nm_M_fr hok hM F1 nm_cAll_m
      obtain ⟨kd', ln', kd2'⟩ := keep F1
      have cc := fun j (h : am_w (i + j) < am_ln M (-2)) => (show am_w (i + j) < am_ln M1 (-2) by rw [ln', ← ln]; exact h)
      refine g_262_1326 ⟨kd', b1, cc 1 c1, kd2', by decide, ?_⟩
      rw [gs F1 (am_w (i + 1))]
      exact nmq_41 (d := 99) (hd := by decide) (hok := hok) (hM := hM1) (hQ := fun M2 F2 hM2 => g_262_1335 ⟨fun _ => nxt _ M1 M2 F1 F2 hC1 hM2 (hok), fun c => absurd rfl c⟩)
    refine ⟨fun _ => ?_, fun _ => ?_⟩
    · refine ⟨kd1, by decide, nmp_42 (d := 99) (hC := hC) (hQ := fun M1 F1 hC1 => ?_)⟩
      have hM1 := nm_M_fr hok hM F1 nm_cAll_m
      obtain ⟨kd', ln', kd2'⟩ := keep F1
      refine g_262_1344 ⟨kd2', by decide, ?_⟩
      exact nmq_42 (d := 99) (hok := hok) (hM := hM1) (hQ := fun M2 F2 hM2 => g_262_1348 ⟨fun _ => nxt _ M1 M2 F1 F2 hC1 hM2 (hok), fun c => absurd rfl c⟩)
    exact nxt X M M nm_cR (nm_Fg_refl _ _) hC hM hok
