/-! LINES, the class: what was heard -/
theorem nmc_89 {d : Nat} {X : nm_X} {M : am_M} {Q : List am_V → am_M → Prop} (hd : 1 ≤ d) (hC : nm_C M X) (hQ : ∀ r, 0 ≤ r → r ≤ 8 → (∀ k : Nat, (k : Int) < nx_S X 1 → nx_S X (85 + 3 * (k : Int)) ≤ r) → Q [(0, r)] M) : am_CL d 89 [(2, 20)] M Q := by
  have hL := nm_C_L hC
  have hS := hC.1.2.1
  have hO := hC.1.2.2.1
  have o1 := hO.2.1
  refine h_89_0 hL ?_
  have key : ∀ k : Nat, k ≤ (nx_S X 1).toNat → ∀ r, 0 ≤ r → r ≤ 8 → (∀ j : Nat, j < k → nx_S X (85 + 3 * (j : Int)) ≤ r) → am_WP d am_c89 4 [(2, 20), (0, r), (0, (k : Int))] [] M Q := by
    refine nm_dn ?_
    intro k hk ih r r0 r8 hr
    refine h_89_4 hL ?_
    rw [show am_gt M 1 6 = nx_S X 1 from hS.2.1]
    refine ⟨fun h => hQ r r0 r8 (fun j hj => hr j (by omega)), fun h => ⟨by omega, by omega, hd, ?_⟩⟩
    have oh := (hO.2.2.2.2.2.2.2.2.2.2.2.2 (k : Int) (by omega) (by omega)).1
    rw [nm_shh hS (by omega) (by omega), nm_wk (by omega)]
    refine ih (by omega) _ (by omega) (by omega) (fun j hj => ?_)
    by_cases e : j = k
    · subst e; omega
    · have := hr j (by omega); omega
  exact key 0 (Nat.zero_le _) 0 (by decide) (by decide) (fun j hj => absurd hj (Nat.not_lt_zero _))
theorem nmc_91 {d : Nat} {m p H : Int} {X : nm_X} {M : am_M} {Q : List am_V → am_M → Prop} (hd : 1 ≤ d) (hC : nm_C M X) (m0 : 0 ≤ m) (m1 : m < 6) (p0 : 0 ≤ p) (p1 : p < 6) (ht : ∀ h, p < h → h ≤ H → am_gt M 22 (48 * m + 8 * p + h - 1) = nm_mkx X m p h) (hH : ∀ k : Nat, (k : Int) < nx_S X 1 → nx_S X (85 + 3 * (k : Int)) ≤ H) (hQ : Q [(0, nm_hmx X m p)] M) : am_CL d 91 [(2, 20), (0, m), (0, p)] M Q := by
  have hL := nm_C_L hC
  have hS := hC.1.2.1
  have hO := hC.1.2.2.1
  have o1 := hO.2.1
  refine h_91_0 hL ?_
  have key : ∀ k : Nat, k ≤ (nx_S X 1).toNat → ∀ l5, am_WP d am_c91 5 [(2, 20), (0, m), (0, p), (0, nm_hm X m p k), (0, (k : Int)), l5] [] M Q := by
    refine nm_dn ?_
    intro k hk ih l5
    refine h_91_5 hL ?_
    rw [show am_gt M 1 6 = nx_S X 1 from hS.2.1]
    refine ⟨fun h => ?_, fun h => ⟨by omega, by omega, ?_⟩⟩
    · have e : k = (nx_S X 1).toNat := by omega
      rw [e]; exact hQ
    · have oh := hO.2.2.2.2.2.2.2.2.2.2.2.2 (k : Int) (by omega) (by omega)
      have nx := ih (by omega)
      have e : nm_hm X m p (k + 1) = if p < nx_S X (85 + 3 * (k : Int)) ∧ nm_mkx X m p (nx_S X (85 + 3 * (k : Int))) = nx_S X (86 + 3 * (k : Int)) then am_or (nm_hm X m p k) (am_shl 1 (k : Int)) else nm_hm X m p k := rfl
      rw [e] at nx
      rw [nm_shh hS (by omega) (by omega)]
      refine ⟨fun c => ?_, fun c => ⟨by omega, nmc_80 hL m0 m1 p0 p1 (by omega) (by omega) ?_⟩⟩
      · rw [if_neg (fun z => by omega)] at nx
        rw [nm_wk (by omega)]; exact nx _
      · refine h_91_46 hL ?_
        rw [nm_shp hS (by omega) (by omega), ht _ (by omega) (hH k (by omega)), nm_wk (by omega)]
        refine ⟨by omega, by omega, by omega, by omega, fun g => ?_, fun g => ?_⟩
        · rw [if_neg (fun z => g z.2)] at nx; exact nx _
        · rw [if_pos ⟨by omega, Decidable.of_not_not g⟩] at nx; exact nx _
  exact key 0 (Nat.zero_le _) _
/-- the tables after what was heard is weighed -/
def nm_PW (M : am_M) (X : nm_X) (n j : Int) : Prop := ∀ m p, 0 ≤ m → m < nx_S X 0 → 0 ≤ p → p < n → (6 * m + p < j → am_gt M 23 (6 * m + p) = (if nm_cn2 X m p then 1 else 0) ∧ (nm_cn2 X m p = true → am_gt M 24 (6 * m + p) = nm_hmx X m p)) ∧ (j ≤ 6 * m + p → am_gt M 23 (6 * m + p) = if nm_cn X m p then 1 else 0)
def nm_TW (M : am_M) (X : nm_X) (n : Int) : Prop := ∀ m p, 0 ≤ m → m < nx_S X 0 → 0 ≤ p → p < n → am_gt M 23 (6 * m + p) = (if nm_cn2 X m p then 1 else 0) ∧ (nm_cn2 X m p = true → am_gt M 24 (6 * m + p) = nm_hmx X m p)
abbrev nm_wgC : nm_Rg := [(20, 13, 14), (23, 0, 36), (24, 0, 36)]
theorem nmc_90 {d n : Nat} {H : Int} {X : nm_X} {M : am_M} {Q : List am_V → am_M → Prop} (hd : 3 ≤ d) (hC : nm_C M X) (n6 : n ≤ 6) (ht : nm_TC M (nx_S X 0) (n : Int) H (nm_cn X) (nm_mkx X)) (hH : ∀ k : Nat, (k : Int) < nx_S X 1 → nx_S X (85 + 3 * (k : Int)) ≤ H) (hQ : ∀ M', nm_Fr nm_wgC M M' → nm_TW M' X (n : Int) → am_gt M' 20 13 = nm_ndx X → Q [] M') : am_CL d 90 [(2, 20), (0, (n : Int))] M Q := by
  have hL := nm_C_L hC
  have hO := hC.1.2.2.1
  have o0 := hO.1
  have o1 := hO.2.1
  have lay : ∀ {M1}, nm_Fr nm_wgC M M1 → nm_C M1 X := fun F => nm_C_fr hC F (by decide +kernel)
  have key1 : ∀ m : Nat, m ≤ (nx_S X 0).toNat → ∀ M1 l3 l4 l5, nm_Fr nm_wgC M M1 → nm_PW M1 X (n : Int) (6 * (m : Int)) → am_gt M1 20 13 = nm_ndx X → am_WP d am_c90 46 [(2, 20), (0, (n : Int)), (0, (m : Int)), l3, l4, l5] [] M1 Q := by
    refine nm_dn ?_
    intro m hm ih1 M1 l3 l4 l5 F1 a1 z1
    have C1 := lay F1
    refine h_90_46 (nm_C_L C1) ?_
    rw [nm_s0 C1.1.2.1]
    refine ⟨fun h => hQ M1 F1 (fun m' p' a b c e => (a1 m' p' a b c e).1 (by omega)) z1, fun h => ?_⟩
    have key2 : ∀ p : Nat, p ≤ n → ∀ M2 l4 l5, nm_Fr nm_wgC M M2 → nm_PW M2 X (n : Int) (6 * (m : Int) + (p : Int)) → am_gt M2 20 13 = nm_ndx X → am_WP d am_c90 59 [(2, 20), (0, (n : Int)), (0, (m : Int)), (0, (p : Int)), l4, l5] [] M2 Q := by
      refine nm_dn ?_
      intro p hp ih2 M2 l4 l5 F2 a2 z2
      have C2 := lay F2
      have hL2 := nm_C_L C2
      have nx : p < n → ∀ v w l4 l5, (v = if nm_cn2 X (m : Int) (p : Int) then 1 else 0) → (nm_cn2 X (m : Int) (p : Int) = true → w = nm_hmx X (m : Int) (p : Int)) → am_WP d am_c90 59 [(2, 20), (0, (n : Int)), (0, (m : Int)), (0, am_w ((p : Int) + 1)), l4, l5] [] (am_st (am_st M2 23 (6 * (m : Int) + (p : Int)) v) 24 (6 * (m : Int) + (p : Int)) w) Q := by
        intro hpn v w l4 l5 hv hw
        rw [nm_wk (by omega)]
        refine ih2 hpn _ _ _ (nm_Fr_st (nm_Fr_st F2 (nm_in_c (a := 23) (lo := 0) (hi := 36) (by decide) (by omega) (by omega))) (nm_in_c (a := 24) (lo := 0) (hi := 36) (by decide) (by omega) (by omega))) (fun m' p' a b c e => ?_) (by rw [nm_st_ne (by decide), nm_st_ne (by decide)]; exact z2)
        have old := a2 m' p' a b c e
        by_cases g : 6 * m' + p' = 6 * (m : Int) + (p : Int)
        · have e1 : m' = (m : Int) := by omega
          have e2 : p' = (p : Int) := by omega
          subst e1; subst e2
          refine ⟨fun _ => ⟨?_, fun x => ?_⟩, fun x => absurd x (by omega)⟩
          · rw [nm_st_ne (by decide), nm_st_eq, hv]
          · rw [nm_st_eq, hw x]
        · refine ⟨fun x => ⟨?_, fun y => ?_⟩, fun x => ?_⟩
          · rw [nm_st_ne (by decide), nm_st_nj g]; exact (old.1 (by omega)).1
          · rw [nm_st_nj g, nm_st_ne (by decide)]; exact (old.1 (by omega)).2 y
          · rw [nm_st_ne (by decide), nm_st_nj g]; exact old.2 (by omega)
      refine h_90_59 hL2 ⟨fun h' => ?_, fun h' => ?_⟩
      · rw [nm_wk (by omega)]
        refine ih1 (by omega) M2 _ _ _ F2 (fun m' p' a b c e => ?_) z2
        have old := a2 m' p' a b c e
        exact ⟨fun x => old.1 (by omega), fun x => old.2 (by omega)⟩
      · have hpn : p < n := by omega
        have cur := (a2 (m : Int) (p : Int) (by omega) (by omega) (by omega) (by omega)).2 (Int.le_refl _)
        rw [am_w_id (x := (m : Int) * 6) (by omega) (by omega), am_w_id (x := (m : Int) * 6 + (p : Int)) (by omega) (by omega), show (m : Int) * 6 + (p : Int) = 6 * (m : Int) + (p : Int) by omega, cur]
        refine ⟨by omega, by omega, ?_⟩
        cases hcn : nm_cn X (m : Int) (p : Int)
        · have c2 : nm_cn2 X (m : Int) (p : Int) = false := by unfold nm_cn2; rw [hcn, Bool.false_and]
          exact ⟨fun _ => ⟨fun _ => nx hpn 0 0 _ _ (by rw [c2]; rfl) (fun x => by rw [c2] at x; cases x), fun c => absurd rfl c⟩, fun c => absurd rfl c⟩
        · refine ⟨fun c => absurd c (by decide), fun _ => ⟨by omega, nmc_91 (by omega) C2 (by omega) (by omega) (by omega) (by omega) (H := H) (fun h x y => ?_) hH ?_⟩⟩
          · exact (nm_gt_frn F2 hL (by decide) (by decide)).trans ((ht (m : Int) (p : Int) (by omega) (by omega) (by omega) (by omega)).2 hcn h x y)
          · refine h_90_88 hL2 ?_
            rw [cur, hcn, z2]
            refine ⟨by omega, by omega, fun c => absurd c (by decide), fun _ => ⟨fun g => ?_, fun g => ?_⟩⟩
            · have c2 : nm_cn2 X (m : Int) (p : Int) = false := by unfold nm_cn2; rw [hcn, Bool.true_and, decide_eq_false g]
              exact nx hpn 0 _ _ _ (by rw [c2]; rfl) (fun _ => rfl)
            · have c2 : nm_cn2 X (m : Int) (p : Int) = true := by unfold nm_cn2; rw [hcn, Bool.true_and, decide_eq_true (Decidable.of_not_not g)]
              exact nx hpn 1 _ _ _ (by rw [c2]; rfl) (fun _ => rfl)
    exact key2 0 (Nat.zero_le _) M1 _ _ F1 (fun m' p' a b c e => ⟨fun x => (a1 m' p' a b c e).1 (by omega), fun x => (a1 m' p' a b c e).2 (by omega)⟩) z1
  refine h_90_0 hL ?_
  have key0 : ∀ k : Nat, k ≤ (nx_S X 1).toNat → ∀ M1, nm_Fr nm_wgC M M1 → (∀ i, am_gt M1 23 i = am_gt M 23 i) → am_gt M1 20 13 = nm_nd X k → am_WP d am_c90 7 [(2, 20), (0, (n : Int)), (0, (k : Int)), (9, 0), (9, 0), (9, 0)] [] M1 Q := by
    refine nm_dn ?_
    intro k hk ih M1 F1 e1 z1
    have C1 := lay F1
    refine h_90_7 (nm_C_L C1) ?_
    rw [show am_gt M1 1 6 = nx_S X 1 from C1.1.2.1.2.1]
    refine ⟨fun h => ?_, fun h => ⟨by omega, by omega, ?_⟩⟩
    · refine key1 0 (Nat.zero_le _) M1 _ _ _ F1 (fun m' p' a b c e => ⟨fun x => absurd x (by omega), fun _ => ?_⟩) ?_
      · rw [e1]; exact (ht m' p' a b c e).1
      · rw [z1]; show nm_nd X k = nm_nd X (nx_S X 1).toNat; rw [show k = (nx_S X 1).toNat by omega]
    · rw [nm_shm C1.1.2.1 (by omega) (by omega), z1, nm_wk (by omega)]
      exact ih (by omega) _ (nm_Fr_st F1 (by decide)) (fun i => (nm_st_ne (by decide)).trans (e1 i)) nm_st_eq
  exact key0 0 (Nat.zero_le _) _ (nm_Fr_st (nm_Fg_refl _ _) (by decide)) (fun i => nm_st_ne (by decide)) nm_st_eq
