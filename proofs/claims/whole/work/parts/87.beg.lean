/-! THE FIRST STATE -/
def co_m : co_S := (247, 25654, co_o2)
def co_M (L : Int) (xs : Int → Int) : am_M := co_ap (am_M00 L xs) co_m
theorem co_G {L : Int} {xs : Int → Int} {a i v : Int} (h : co_gt co_o2 a i = some v) : am_gt (co_M L xs) a i = v := co_gt_eq h
theorem co_T {L : Int} {xs : Int → Int} {a : Int} {q : Nat × Int} (h : co_ty co_o2 a = some q) : (co_M L xs).2.2.1 a = q := co_ty_eq h
theorem co_W {L : Int} {xs : Int → Int} {a : Int} {l : List (Int × Int)} {k : Nat} (h : co_row co_o2 a = some (l, k)) (i : Int) : am_gt (co_M L xs) a i = co_rg k l i := co_row_eq h i
theorem co_z100 {i : Int} : co_rg 100 [] i = 0 := rfl
theorem co_z102 {i : Int} : co_rg 102 [] i = 0 := rfl
theorem co_z104 {i : Int} : co_rg 104 [] i = -1 := rfl
theorem co_Z {L : Int} {xs : Int → Int} {a : Int} (h : co_row co_o2 a = some ([], 100)) (i : Int) : am_gt (co_M L xs) a i = 0 := (co_W h i).trans co_z100
theorem co_neg {f : Int → Nat × Int} {g : Int → Int → Int} {a : Int} (ha : a < 0) : ∀ {t : co_O}, t.all (fun o => decide (0 ≤ o.2.1)) = true → co_tyf f t a = f a ∧ ∀ i, co_gtf g t a i = g a i
  | [], _ => ⟨rfl, fun _ => rfl⟩
  | (true, b, k, n, v) :: t, h => by
    rw [List.all_cons, Bool.and_eq_true] at h
    have hb : 0 ≤ b := of_decide_eq_true h.1
    obtain ⟨h1, h2⟩ := co_neg (f := f) (g := g) ha h.2
    unfold co_tyf co_gtf
    refine ⟨by rw [if_neg (by omega)]; exact h1, fun i => by rw [if_neg (by omega)]; exact h2 i⟩
  | (false, b, k, n, v) :: t, h => by
    rw [List.all_cons, Bool.and_eq_true] at h
    have hb : 0 ≤ b := of_decide_eq_true h.1
    obtain ⟨h1, h2⟩ := co_neg (f := f) (g := g) ha h.2
    unfold co_tyf co_gtf
    refine ⟨h1, fun i => by rw [if_neg (by omega)]; exact h2 i⟩
theorem co_Nt {L : Int} {xs : Int → Int} {a : Int} (ha : a < 0) : (co_M L xs).2.2.1 a = (am_M00 L xs).2.2.1 a := (co_neg (g := fun _ _ => 0) ha (by decide +kernel)).1
theorem co_Ng {L : Int} {xs : Int → Int} {a : Int} (ha : a < 0) (i : Int) : am_gt (co_M L xs) a i = am_gt (am_M00 L xs) a i := (co_neg (f := fun _ => (0, 0)) ha (by decide +kernel)).2 i
theorem co_tys : (List.range 247).all (fun k : Nat => decide (co_ty co_o2 (k : Int) = some (nm_tyf (k : Int)))) = true := by decide +kernel
theorem co_rfs : nm_rfl.all (fun q => decide (co_gt co_o2 q.1 q.2.1 = some q.2.2)) = true := by decide +kernel
theorem co_Lay {L : Int} {xs : Int → Int} : nm_Lay (co_M L xs) := by
  refine ⟨fun a a0 a1 => ?_, fun q hq => ?_, Int.le_refl _, fun k hk => ⟨?_, fun i hi => ?_⟩⟩
  · have h := of_decide_eq_true (List.all_eq_true.mp co_tys a.toNat (List.mem_range.mpr (by omega)))
    rw [Int.toNat_of_nonneg a0] at h
    exact co_T h
  · exact co_G (of_decide_eq_true (List.all_eq_true.mp co_rfs q hq))
  · rw [co_Nt (by omega)]
    show (if (-10 - (k : Int)) = -2 then (110, L) else if (-10 - (k : Int)) ≤ -10 ∧ -49 < (-10 - (k : Int)) then (111, ((am_tx.getD (-10 - (-10 - (k : Int))).toNat []).length : Int)) else ((999, 0) : Nat × Int)) = _
    rw [if_neg (by omega), if_pos (by omega), show (-10 - (-10 - (k : Int))).toNat = k by omega]
  · rw [co_Ng (by omega)]
    show (if (-10 - (k : Int)) = -2 then xs i else if (-10 - (k : Int)) ≤ -10 ∧ -49 < (-10 - (k : Int)) then (am_tx.getD (-10 - (-10 - (k : Int))).toNat []).getD (i : Int).toNat 0 else 0) = _
    rw [if_neg (by omega), if_pos (by omega), show (-10 - (-10 - (k : Int))).toNat = k by omega, Int.toNat_natCast]
def co_S0 (i : Int) : Int := if i = 3 then -1 else if i = 5 then 3 else if i = 7 then 6 else 0
def co_R0 (i : Int) : Int := if i = 8 then -1 else if i = 9 then -1 else if i = 10 then -1 else 0
def co_W0 : nm_W := (0, [], fun _ => 0, fun _ => 0)
def co_G0 : nm_G := (co_S0, co_W0, fun _ => [])
def co_X0 : nm_X := (co_G0, (fun _ => co_G0), (fun _ => 0), [], (fun _ => 0), 0, co_R0, co_W0)
theorem co_S8 {i : Int} (h : 8 ≤ i) : co_S0 i = 0 := by
  unfold co_S0
  rw [if_neg (by omega), if_neg (by omega), if_neg (by omega)]
theorem co_okS : nm_okS co_S0 := by
  refine ⟨by decide, by decide, by decide, by decide, by decide, by decide, by decide, fun m a b => ?_, fun k a b => ?_, fun m a b => ?_, fun m a b => ?_, fun p a b => ?_, fun i a b => ?_⟩
  · exact absurd (show m < 0 from b) (by omega)
  · rw [co_S8 (by omega)]; decide
  · rw [co_S8 (by omega)]; decide
  · rw [co_S8 (by omega)]; decide
  · rw [co_S8 (by omega)]; decide
  · exact absurd (show i < 0 from b) (by omega)
theorem co_okW {n : Int} : nm_okW n co_W0 := ⟨by decide, by decide, List.nodup_nil, fun m h => absurd h List.not_mem_nil, fun _ _ _ => ⟨Int.le_refl 0, show (0 : Int) ≤ 30 by decide⟩, fun _ _ _ => ⟨Int.le_refl 0, show (0 : Int) ≤ 99 by decide⟩⟩
theorem co_ok : nm_ok co_X0 := by
  refine ⟨⟨co_okS, ⟨fun i a b => ?_, fun i j a b => ?_⟩, co_okW, by decide⟩, fun k _ _ => .inl rfl, ⟨by decide, fun u h => absurd h List.not_mem_nil⟩, ⟨by decide, by decide, fun i a b => ?_⟩, .inl rfl⟩
  · exact absurd (show i < 0 from b) (by omega)
  · exact absurd (show i < 0 from b) (by omega)
  · exact absurd (show i < 0 from b) (by omega)
theorem co_u34 : (List.range 16).all (fun k : Nat => decide (co_gt co_o2 36 (k : Int) = some (37 + 4 * (k : Int)))) = true := by decide +kernel
theorem co_u101 : (List.range 16).all (fun k : Nat => decide (co_gt co_o2 103 (k : Int) = some (104 + 4 * (k : Int)))) = true := by decide +kernel
theorem co_CUp {L : Int} {xs : Int → Int} {u : Int} (h : ∀ i, 0 ≤ i → i < 16 → am_gt (co_M L xs) (u + 2) i = u + 3 + 4 * i) : nm_CUp (co_M L xs) u := by
  refine ⟨fun i a b => ?_, fun i j a b a' b' e => ?_⟩
  · rw [h i a b]
    exact List.mem_map.mpr ⟨i.toNat, List.mem_range.mpr (by omega), by rw [Int.toNat_of_nonneg a]⟩
  · rw [h i a b, h j a' b'] at e
    omega
theorem co_U {L : Int} {xs : Int → Int} : nm_CUp (co_M L xs) 34 ∧ nm_CUp (co_M L xs) 101 := by
  refine ⟨co_CUp (fun i a b => ?_), co_CUp (fun i a b => ?_)⟩
  · have h := of_decide_eq_true (List.all_eq_true.mp co_u34 i.toNat (List.mem_range.mpr (by omega)))
    rw [Int.toNat_of_nonneg a] at h
    exact co_G h
  · have h := of_decide_eq_true (List.all_eq_true.mp co_u101 i.toNat (List.mem_range.mpr (by omega)))
    rw [Int.toNat_of_nonneg a] at h
    exact co_G h
theorem co_CS {L : Int} {xs : Int → Int} : nm_CS (co_M L xs) 1 co_S0 := by
  refine ⟨co_G (by decide +kernel), co_G (by decide +kernel), co_G (by decide +kernel), co_G (by decide +kernel), co_G (by decide +kernel), co_G (by decide +kernel), co_G (by decide +kernel), fun m a b => ?_, fun m a b => ?_, fun m a b => ?_, fun m a b => ?_, fun m a b => ?_, fun m a b => ?_, fun m a b => ?_, fun m a b => ?_⟩
  all_goals rw [co_S8 (by omega)]
  all_goals exact co_Z (by decide +kernel) m
theorem co_CW11 {L : Int} {xs : Int → Int} : nm_CW (co_M L xs) 11 co_W0 := ⟨co_G (by decide +kernel), co_G (by decide +kernel), by decide, fun p h => absurd h (Nat.not_lt_zero _), fun m _ _ => co_Z (by decide +kernel) m, fun m _ _ => co_Z (by decide +kernel) m⟩
theorem co_C {L : Int} {xs : Int → Int} : nm_C (co_M L xs) co_X0 := by
  refine ⟨⟨co_Lay, co_CS, co_okS, fun k a b => ?_⟩, co_CW11, fun k a b => .inl ?_, fun k a b => .inl ?_, fun k a b => .inl ?_, ⟨?_, fun h => ?_⟩, ⟨?_, fun h => ?_⟩, ⟨co_U.1, ?_, by decide, fun k h => absurd h (Nat.not_lt_zero _)⟩, co_U.2, ⟨?_, fun i a b => ?_⟩, ?_, .inl rfl⟩
  · exact absurd (show k < 0 from b) (by omega)
  · exact (co_W (l := []) (k := 104) (by decide +kernel) k).trans co_z104
  · exact (co_W (l := []) (k := 104) (by decide +kernel) k).trans co_z104
  · exact (co_W (l := []) (k := 104) (by decide +kernel) k).trans co_z104
  · exact co_G (by decide +kernel)
  · exact absurd (show (0 : Int) = 1 from h) (by decide)
  · exact co_G (by decide +kernel)
  · exact absurd (show (0 : Int) = 1 from h) (by decide)
  · exact co_G (by decide +kernel)
  · exact co_G (by decide +kernel)
  · exact absurd (show i < 0 from b) (by omega)
  · exact ⟨co_G (by decide +kernel), co_G (by decide +kernel), co_G (by decide +kernel), co_G (by decide +kernel), co_G (by decide +kernel), co_G (by decide +kernel), co_G (by decide +kernel), co_G (by decide +kernel), co_G (by decide +kernel), co_G (by decide +kernel)⟩
theorem co_216 {L : Int} {xs : Int → Int} {i : Int} (h : i ≠ 3 ∧ i ≠ 5 ∧ i ≠ 7 ∧ (i < 9 ∨ 14 < i)) : am_gt (co_M L xs) 216 i = 0 := by
  rw [co_W (a := 216) (l := [(14, -1), (13, -1), (12, -1), (11, -1), (10, -1), (9, -1), (7, 6), (5, 3), (3, -1)]) (k := 100) (by decide +kernel) i]
  unfold co_rg; rw [if_neg (by dsimp only; omega)]
  unfold co_rg; rw [if_neg (by dsimp only; omega)]
  unfold co_rg; rw [if_neg (by dsimp only; omega)]
  unfold co_rg; rw [if_neg (by dsimp only; omega)]
  unfold co_rg; rw [if_neg (by dsimp only; omega)]
  unfold co_rg; rw [if_neg (by dsimp only; omega)]
  unfold co_rg; rw [if_neg (by dsimp only; omega)]
  unfold co_rg; rw [if_neg (by dsimp only; omega)]
  unfold co_rg; rw [if_neg (by dsimp only; omega)]
  rfl
theorem co_MS {L : Int} {xs : Int → Int} : nm_MS (co_M L xs) co_S0 := by
  intro i hi
  unfold nm_si at hi
  by_cases e3 : i = 3
  · subst e3; exact co_G (by decide +kernel)
  · by_cases e5 : i = 5
    · subst e5; exact co_G (by decide +kernel)
    · by_cases e7 : i = 7
      · subst e7; exact co_G (by decide +kernel)
      · rw [co_216 (by omega)]
        unfold co_S0
        rw [if_neg e3, if_neg e5, if_neg e7]
theorem co_Mm {L : Int} {xs : Int → Int} : nm_M (co_M L xs) co_X0 := by
  refine ⟨⟨co_Lay, co_MS, ⟨co_216 (by omega), co_216 (by omega), by decide, fun p h => absurd h (Nat.not_lt_zero _), fun m a b => co_216 (by omega), fun m a b => co_216 (by omega)⟩, co_okS, fun k a b => ?_, co_G (by decide +kernel)⟩, fun k a b => ⟨?_, fun h => ?_⟩, ⟨co_G (by decide +kernel), by decide, fun k h => absurd h (Nat.not_lt_zero _)⟩, ⟨co_G (by decide +kernel), fun i a b => ?_⟩, ⟨co_G (by decide +kernel), fun j a b c => ?_, co_G (by decide +kernel), co_G (by decide +kernel), co_G (by decide +kernel), co_G (by decide +kernel)⟩, .inl rfl⟩
  · exact absurd (show k < 0 from b) (by omega)
  · exact (co_W (l := []) (k := 102) (by decide +kernel) k).trans co_z102
  · exact absurd (show (0 : Int) = 1 from h) (by decide)
  · exact absurd (show i < 0 from b) (by omega)
  · show _ = co_R0 j
    unfold co_R0
    rw [if_neg (by omega), if_neg (by omega), if_neg (by omega)]
    exact co_Z (by decide +kernel) j
