/-! LINES, the class: seeking -/
abbrev nm_sg : Type := Int × List Int × (Int → Int → Int) × (Int → Int)
abbrev nm_vh (X : nm_X) (T : List Int) (h : Int) : Int := nm_mb (nm_mkx X) h (nm_at T) (min T.length h.toNat)
def nm_sl (X : nm_X) (i z : Int) (T : List Int) (s : nm_sg) : nm_sg := (s.1 + 1, if s.1 = i then T else s.2.1, if z = 0 then s.2.2.1 else (fun h => nm_up (s.2.2.1 h) (nm_vh X T h) (s.2.2.1 h (nm_vh X T h) + 1)), if z = 0 then s.2.2.2 else (fun h => max (s.2.2.2 h) (s.2.2.1 h (nm_vh X T h) + 1)))
def nm_fd2 (X : nm_X) (i z : Int) : List (List Int) → nm_sg → nm_sg
  | [], s => s
  | T :: L, s => if i ≠ -1 ∧ i < s.1 then s else nm_fd2 X i z L (nm_sl X i z T s)
theorem nm_fd2_stop {X : nm_X} {i z : Int} {L : List (List Int)} {s : nm_sg} (h : i ≠ -1 ∧ i < s.1) : nm_fd2 X i z L s = s := by
  cases L with
  | nil => rfl
  | cons T L => exact if_pos h
theorem nm_fd2_app {X : nm_X} {i z : Int} : ∀ {l1 l2 : List (List Int)} {s : nm_sg}, nm_fd2 X i z (l1 ++ l2) s = nm_fd2 X i z l2 (nm_fd2 X i z l1 s)
  | [], _, _ => rfl
  | T :: l1, l2, s => by
    show (if i ≠ -1 ∧ i < s.1 then s else nm_fd2 X i z (l1 ++ l2) (nm_sl X i z T s)) = nm_fd2 X i z l2 (if i ≠ -1 ∧ i < s.1 then s else nm_fd2 X i z l1 (nm_sl X i z T s))
    by_cases h : i ≠ -1 ∧ i < s.1
    · rw [if_pos h, if_pos h, nm_fd2_stop h]
    · rw [if_neg h, if_neg h]; exact nm_fd2_app
theorem nm_fd2_le {X : nm_X} {i z : Int} : ∀ {L : List (List Int)} {s : nm_sg}, s.1 ≤ (nm_fd2 X i z L s).1 ∧ (nm_fd2 X i z L s).1 ≤ s.1 + (L.length : Int)
  | [], s => ⟨Int.le_refl _, by rw [List.length_nil]; show s.1 ≤ _; omega⟩
  | T :: L, s => by
    show s.1 ≤ (if i ≠ -1 ∧ i < s.1 then s else nm_fd2 X i z L (nm_sl X i z T s)).1 ∧ (if i ≠ -1 ∧ i < s.1 then s else nm_fd2 X i z L (nm_sl X i z T s)).1 ≤ _
    rw [List.length_cons]
    by_cases h : i ≠ -1 ∧ i < s.1
    · rw [if_pos h]; omega
    · rw [if_neg h]
      have := nm_fd2_le (X := X) (i := i) (z := z) (L := L) (s := nm_sl X i z T s)
      have e : (nm_sl X i z T s).1 = s.1 + 1 := rfl
      omega
def nm_MQ (M : am_M) (z : Int) (s : nm_sg) : Prop := am_gt M 20 15 = s.1 ∧ 0 ≤ s.1 ∧ nm_MT21 M s.2.1 ∧ s.2.1.length ≤ 6 ∧ (z ≠ 0 → ∀ h, 1 ≤ h → h ≤ 8 → am_gt M 29 (h - 1) = s.2.2.2 h ∧ ∀ v, 0 ≤ v → v < 256 → am_gt M 28 (256 * (h - 1) + v) = s.2.2.1 h v ∧ 0 ≤ s.2.2.1 h v ∧ s.2.2.1 h v ≤ s.1)
theorem nm_MQ_fr {f : nm_Rg} {M M' : am_M} {z : Int} {s : nm_sg} (hL : nm_Lay M) (h : nm_MQ M z s) (F : nm_Fr f M M') (h1 : nm_dj f [(20, 15, 16)] = true) (h2 : nm_no f 21 = true) (h3 : nm_no f 28 = true) (h4 : nm_no f 29 = true) : nm_MQ M' z s := by
  obtain ⟨a, b, c, e, g⟩ := h
  refine ⟨(nm_gt_frd F hL (by decide) h1 (by decide)).trans a, b, nm_MT21_fr hL c F h2, e, fun hz h x y => ?_⟩
  refine ⟨(nm_gt_frn F hL (by decide) h4).trans (g hz h x y).1, fun v p q => ?_⟩
  have := (g hz h x y).2 v p q
  exact ⟨(nm_gt_frn F hL (by decide) h3).trans this.1, this.2⟩
abbrev nm_tkC : nm_Rg := [(20, 15, 16), (21, 0, 6), (28, 0, 2048), (29, 0, 8)]
theorem nmc_93 {d n : Nat} {i z : Int} {X : nm_X} {T : List Int} {s : nm_sg} {M : am_M} {Q : List am_V → am_M → Prop} (hd : 1 ≤ d) (hL : nm_Lay M) (hl : T.length = n) (n6 : n ≤ 6) (hi : nm_inN 6 T) (h25 : ∀ q, 0 ≤ q → q < (n : Int) → am_gt M 25 q = nm_at T q) (ht : z ≠ 0 → ∀ j : Nat, j < n → ∀ h, (j : Int) < h → h ≤ 8 → am_gt M 22 (48 * nm_at T (j : Int) + 8 * (j : Int) + h - 1) = nm_mkx X (nm_at T (j : Int)) (j : Int) h) (h14 : am_gt M 20 14 = i) (h16 : am_gt M 20 16 = z) (hs : nm_MQ M z s) (sb : s.1 ≤ 50000) (hQ : ∀ M', nm_Fr nm_tkC M M' → nm_MQ M' z (nm_sl X i z T s) → Q [] M') : am_CL d 93 [(2, 20), (0, (n : Int))] M Q := by
  obtain ⟨q1, q2, q3, q4, q5⟩ := hs
  have main : ∀ M1, nm_Fr nm_tkC M M1 → am_gt M1 20 15 = s.1 + 1 → nm_MT21 M1 (if s.1 = i then T else s.2.1) → (∀ a, am_gt M1 28 a = am_gt M 28 a) → (∀ a, am_gt M1 29 a = am_gt M 29 a) → am_WP d am_c93 38 [(2, 20), (0, (n : Int)), (0, 1), (9, 0), (9, 0)] [] M1 Q := by
    intro M1 F1 e15 e21 e28 e29
    have loop : ∀ h : Nat, h ≤ 8 → ∀ M2 l3 l4, nm_Fr nm_tkC M M2 → am_gt M2 20 15 = s.1 + 1 → nm_MT21 M2 (if s.1 = i then T else s.2.1) → (z ≠ 0 → ∀ k : Nat, 1 ≤ k → k ≤ 8 → (k ≤ h → am_gt M2 29 ((k : Int) - 1) = (nm_sl X i z T s).2.2.2 (k : Int) ∧ ∀ v, 0 ≤ v → v < 256 → am_gt M2 28 (256 * ((k : Int) - 1) + v) = (nm_sl X i z T s).2.2.1 (k : Int) v) ∧ (h < k → am_gt M2 29 ((k : Int) - 1) = s.2.2.2 (k : Int) ∧ ∀ v, 0 ≤ v → v < 256 → am_gt M2 28 (256 * ((k : Int) - 1) + v) = s.2.2.1 (k : Int) v)) → am_WP d am_c93 38 [(2, 20), (0, (n : Int)), (0, (h : Int) + 1), l3, l4] [] M2 Q := by
      refine nm_dn ?_
      intro h hh ih M2 l3 l4 F2 a15 a21 at'
      have hL2 := nm_Lay_fr hL F2 (by decide +kernel)
      have z2 : am_gt M2 20 16 = z := (nm_gt_frd (g := [(20, 16, 17)]) F2 hL (by decide) (by decide) (by decide)).trans h16
      have fin : (z = 0 ∨ h = 8) → Q [] M2 := by
        intro hz
        refine hQ M2 F2 ⟨a15, by show 0 ≤ s.1 + 1; omega, a21, ?_, fun nz k k0 k1 => ?_⟩
        · show (if s.1 = i then T else s.2.1).length ≤ 6
          split <;> omega
        · obtain ⟨kk, rfl⟩ : ∃ kk : Nat, k = (kk : Int) := ⟨k.toNat, by omega⟩
          have h8 : h = 8 := by rcases hz with c | c; exact absurd c nz; exact c
          have a := (at' nz kk (by omega) (by omega)).1 (by omega)
          refine ⟨a.1, fun v v0 v1 => ⟨a.2 v v0 v1, ?_⟩⟩
          have b := ((q5 nz (kk : Int) k0 k1).2 v v0 v1).2
          have c := ((q5 nz (kk : Int) k0 k1).2 (nm_vh X T (kk : Int)) (nm_mb_in _).1 (by have := (nm_mb_in (X := X) (h := (kk : Int)) (a := nm_at T) (min T.length ((kk : Int)).toNat)).2; show nm_mb _ _ _ _ < 256; omega)).2
          have e : (nm_sl X i z T s).2.2.1 (kk : Int) v = nm_up (s.2.2.1 (kk : Int)) (nm_vh X T (kk : Int)) (s.2.2.1 (kk : Int) (nm_vh X T (kk : Int)) + 1) v := by
            show (if z = 0 then s.2.2.1 else _) (kk : Int) v = _
            rw [if_neg nz]
          rw [e]
          show 0 ≤ (if v = nm_vh X T (kk : Int) then _ else _) ∧ (if v = nm_vh X T (kk : Int) then _ else _) ≤ s.1 + 1
          by_cases ev : v = nm_vh X T (kk : Int)
          · rw [if_pos ev]; omega
          · rw [if_neg ev]; omega
      refine h_93_38 hL2 ?_
      rw [z2]
      refine ⟨fun c => fin (.inl c), fun nz => ⟨fun c => fin (.inr (by omega)), fun c => ?_⟩⟩
      have at1 := at' nz
      have cur := (at1 (h + 1) (by omega) (by omega)).2 (by omega)
      rw [show ((h + 1 : Nat) : Int) - 1 = (h : Int) by omega, show ((h + 1 : Nat) : Int) = (h : Int) + 1 by omega] at cur
      have q5h := q5 nz ((h : Int) + 1) (by omega) (by omega)
      have fin2 : ∀ (x4 : Int), am_WP d am_c93 38 [(2, 20), (0, (n : Int)), (0, am_w ((h : Int) + 1 + 1)), (0, nm_vh X T ((h : Int) + 1)), (0, 256 * (h : Int) + nm_vh X T ((h : Int) + 1))] [] (am_st (am_st M2 28 (256 * (h : Int) + nm_vh X T ((h : Int) + 1)) (s.2.2.1 ((h : Int) + 1) (nm_vh X T ((h : Int) + 1)) + 1)) 29 (h : Int) (max (s.2.2.2 ((h : Int) + 1)) (s.2.2.1 ((h : Int) + 1) (nm_vh X T ((h : Int) + 1)) + 1))) Q := by
        intro x4
        have hv := nm_mb_in (X := X) (h := (h : Int) + 1) (a := nm_at T) (min T.length ((h : Int) + 1).toNat)
        have hv' : 0 ≤ nm_vh X T ((h : Int) + 1) ∧ nm_vh X T ((h : Int) + 1) ≤ 255 := hv
        have := ih (by omega) (am_st (am_st M2 28 (256 * (h : Int) + nm_vh X T ((h : Int) + 1)) (s.2.2.1 ((h : Int) + 1) (nm_vh X T ((h : Int) + 1)) + 1)) 29 (h : Int) (max (s.2.2.2 ((h : Int) + 1)) (s.2.2.1 ((h : Int) + 1) (nm_vh X T ((h : Int) + 1)) + 1))) (0, nm_vh X T ((h : Int) + 1)) (0, 256 * (h : Int) + nm_vh X T ((h : Int) + 1)) (nm_Fr_st (nm_Fr_st F2 (nm_in_c (a := 28) (lo := 0) (hi := 2048) (by decide) (by omega) (by omega))) (nm_in_c (a := 29) (lo := 0) (hi := 8) (by decide) (by omega) (by omega))) (by rw [nm_st_ne (by decide), nm_st_ne (by decide)]; exact a15) (fun q x y => by rw [nm_st_ne (by decide), nm_st_ne (by decide)]; exact a21 q x y) (fun _ k k0 k1 => ?_)
        · rw [show ((h + 1 : Nat) : Int) + 1 = (h : Int) + 1 + 1 by omega] at this
          rw [am_w_id (by omega) (by omega)]; exact this
        · have old := at1 k k0 k1
          have e1 : (nm_sl X i z T s).2.2.2 (k : Int) = max (s.2.2.2 (k : Int)) (s.2.2.1 (k : Int) (nm_vh X T (k : Int)) + 1) := by
            show (if z = 0 then s.2.2.2 else _) (k : Int) = _
            rw [if_neg nz]
          have e2 : ∀ v, (nm_sl X i z T s).2.2.1 (k : Int) v = nm_up (s.2.2.1 (k : Int)) (nm_vh X T (k : Int)) (s.2.2.1 (k : Int) (nm_vh X T (k : Int)) + 1) v := by
            intro v
            show (if z = 0 then s.2.2.1 else _) (k : Int) v = _
            rw [if_neg nz]
          by_cases ek : k = h + 1
          · subst ek
            refine ⟨fun _ => ?_, fun x => absurd x (by omega)⟩
            rw [show ((h + 1 : Nat) : Int) - 1 = (h : Int) by omega, e1, show ((h + 1 : Nat) : Int) = (h : Int) + 1 by omega]
            refine ⟨nm_st_eq, fun v v0 v1 => ?_⟩
            have e2' := e2 v
            rw [show ((h + 1 : Nat) : Int) = (h : Int) + 1 by omega] at e2'
            rw [e2', nm_st_ne (by decide)]
            show _ = if v = nm_vh X T ((h : Int) + 1) then _ else _
            by_cases ev : v = nm_vh X T ((h : Int) + 1)
            · rw [if_pos ev, ev, nm_st_eq]
            · rw [if_neg ev, nm_st_nj (by omega)]; exact cur.2 v v0 v1
          · refine ⟨fun x => ?_, fun x => ?_⟩
            · have o := old.1 (by omega)
              refine ⟨by rw [nm_st_nj (by omega), nm_st_ne (by decide)]; exact o.1, fun v v0 v1 => ?_⟩
              rw [nm_st_ne (by decide), nm_st_nj (by omega)]; exact o.2 v v0 v1
            · have o := old.2 (by omega)
              refine ⟨by rw [nm_st_nj (by omega), nm_st_ne (by decide)]; exact o.1, fun v v0 v1 => ?_⟩
              rw [nm_st_ne (by decide), nm_st_nj (by omega)]; exact o.2 v v0 v1
      have inner : ∀ j : Nat, j ≤ min n (h + 1) → am_WP d am_c93 56 [(2, 20), (0, (n : Int)), (0, (h : Int) + 1), (0, nm_mb (nm_mkx X) ((h : Int) + 1) (nm_at T) j), (0, (j : Int))] [] M2 Q := by
        refine nm_dn ?_
        intro j hj ihj
        have done : j = min n (h + 1) → (0 : Int) ≤ am_w ((am_w ((am_w ((h : Int) + 1 - 1)) * 256)) + nm_mb (nm_mkx X) ((h : Int) + 1) (nm_at T) j) ∧ am_w ((am_w ((am_w ((h : Int) + 1 - 1)) * 256)) + nm_mb (nm_mkx X) ((h : Int) + 1) (nm_at T) j) < 2048 ∧ (0 : Int) ≤ am_w ((h : Int) + 1 - 1) ∧ am_w ((h : Int) + 1 - 1) < 8 ∧ 1 ≤ d ∧ am_WP d am_c93 38 [(2, 20), (0, (n : Int)), (0, am_w ((h : Int) + 1 + 1)), (0, nm_mb (nm_mkx X) ((h : Int) + 1) (nm_at T) j), (0, am_w ((am_w ((am_w ((h : Int) + 1 - 1)) * 256)) + nm_mb (nm_mkx X) ((h : Int) + 1) (nm_at T) j))] [] (am_st (am_st M2 28 (am_w ((am_w ((am_w ((h : Int) + 1 - 1)) * 256)) + nm_mb (nm_mkx X) ((h : Int) + 1) (nm_at T) j)) (am_w ((am_gt M2 28 (am_w ((am_w ((am_w ((h : Int) + 1 - 1)) * 256)) + nm_mb (nm_mkx X) ((h : Int) + 1) (nm_at T) j))) + 1))) 29 (am_w ((h : Int) + 1 - 1)) (max (am_gt M2 29 (am_w ((h : Int) + 1 - 1))) (am_w ((am_gt M2 28 (am_w ((am_w ((am_w ((h : Int) + 1 - 1)) * 256)) + nm_mb (nm_mkx X) ((h : Int) + 1) (nm_at T) j))) + 1)))) Q := by
          intro ej
          have ev : nm_mb (nm_mkx X) ((h : Int) + 1) (nm_at T) j = nm_vh X T ((h : Int) + 1) := by
            show _ = nm_mb _ _ _ (min T.length ((h : Int) + 1).toNat)
            rw [ej, hl, show ((h : Int) + 1).toNat = h + 1 by omega]
          have hv : 0 ≤ nm_vh X T ((h : Int) + 1) ∧ nm_vh X T ((h : Int) + 1) ≤ 255 := nm_mb_in (X := X) (h := (h : Int) + 1) (a := nm_at T) (min T.length ((h : Int) + 1).toNat)
          have cv := cur.2 _ hv.1 (by omega)
          have bv := (q5h.2 _ hv.1 (by omega)).2
          rw [ev, am_w_id (x := (h : Int) + 1 - 1) (by omega) (by omega), show (h : Int) + 1 - 1 = (h : Int) by omega, am_w_id (x := (h : Int) * 256) (by omega) (by omega), am_w_id (x := (h : Int) * 256 + _) (by omega) (by omega), show (h : Int) * 256 = 256 * (h : Int) by omega, cv, cur.1, am_w_id (x := s.2.2.1 ((h : Int) + 1) (nm_vh X T ((h : Int) + 1)) + 1) (by omega) (by omega)]
          exact ⟨by omega, by omega, by omega, by omega, hd, fin2 0⟩
        refine h_93_56 hL2 ⟨fun c1 => done (by omega), fun c1 => ⟨fun c2 => done (by omega), fun c2 => ⟨by omega, by omega, by omega, ?_⟩⟩⟩
        have hm := hi _ (nm_at_in (T := T) (q := (j : Int)) (by omega) (by omega))
        rw [(nm_gt_frn F2 hL (by decide) (by decide)).trans (h25 (j : Int) (by omega) (by omega))]
        refine nmc_80 hL2 hm.1 hm.2 (by omega) (by omega) (by omega) (by omega) (h_93_87 hL2 ⟨by omega, by omega, ?_⟩)
        rw [(nm_gt_frn F2 hL (by decide) (by decide)).trans (ht nz j (by omega) ((h : Int) + 1) (by omega) (by omega)), nm_wk (by omega)]
        exact ihj (by omega)
      exact inner 0 (Nat.zero_le _)
    refine loop 0 (Nat.zero_le _) M1 _ _ F1 e15 e21 (fun nz k k0 k1 => ⟨fun x => absurd x (by omega), fun _ => ?_⟩)
    have o := q5 nz (k : Int) (by omega) (by omega)
    exact ⟨(e29 _).trans o.1, fun v v0 v1 => (e28 _).trans (o.2 v v0 v1).1⟩
  refine h_93_0 hL ?_
  rw [q1, h14, am_w_id (x := s.1 + 1) (by omega) (by omega)]
  refine ⟨fun c => ?_, fun c => ⟨hd, ?_⟩⟩
  · refine main _ (nm_Fr_st (nm_Fg_refl _ _) (by decide)) nm_st_eq ?_ (fun a => nm_st_ne (by decide)) (fun a => nm_st_ne (by decide))
    rw [if_neg c]
    exact fun q x y => (nm_st_ne (by decide)).trans (q3 q x y)
  · have ec : s.1 = i := Decidable.of_not_not c
    refine main _ (nm_Fr_st (nm_Fr_cp (nm_Fg_refl _ _) (fun k k0 k1 => nm_in_c (a := 21) (lo := 0) (hi := 6) (by decide) (by omega) (by omega))) (by decide)) nm_st_eq ?_ (fun a => ?_) (fun a => ?_)
    · rw [if_pos ec]
      intro q x y
      rw [nm_st_ne (by decide), nm_gt_cp, if_pos ⟨rfl, by omega, by omega⟩, show q - 0 + 0 = q by omega]
      exact h25 q x (by omega)
    · rw [nm_st_ne (by decide), nm_gt_cp, if_neg (fun z => by omega)]
    · rw [nm_st_ne (by decide), nm_gt_cp, if_neg (fun z => by omega)]
