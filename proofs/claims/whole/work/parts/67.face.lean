/-! TWO THAT FACE EACH OTHER -/
/-- what comes of a part behind both -/
def nm_fg (S : Int → Int) (W : nm_W) (T : nm_T) (a b p : Int) : Int := nm_made S W T b 0 1 (nm_made S W T a 0 1 p)
theorem nm_fg_in {S : Int → Int} {W : nm_W} {T : nm_T} {a b p : Int} : 0 ≤ nm_fg S W T a b p ∧ nm_fg S W T a b p ≤ 7 := nm_made_in
/-- from x on, k times -/
def nm_it (g : Int → Int) (x : Int) : Nat → Int
  | 0 => x
  | k + 1 => g (nm_it g x k)
theorem nm_it_in {g : Int → Int} {x : Int} (hg : ∀ p, 0 ≤ g p ∧ g p ≤ 7) (hx : 0 ≤ x ∧ x ≤ 7) : ∀ k : Nat, 0 ≤ nm_it g x k ∧ nm_it g x k ≤ 7
  | 0 => hx
  | k + 1 => hg _
theorem nm_it_add (g : Int → Int) (x : Int) (a : Nat) : ∀ b : Nat, nm_it g x (a + b) = nm_it g (nm_it g x a) b
  | 0 => rfl
  | b + 1 => congrArg g (nm_it_add g x a b)
/-- k is the first one that was there, at i -/
def nm_rho (g : Int → Int) (x : Int) (i k : Nat) : Prop := i < k ∧ nm_it g x k = nm_it g x i ∧ ∀ a b : Nat, a < b → b < k → nm_it g x a ≠ nm_it g x b
theorem nm_rho_le {g : Int → Int} {x : Int} (hg : ∀ p, 0 ≤ g p ∧ g p ≤ 7) (hx : 0 ≤ x ∧ x ≤ 7) {k : Nat} (h : ∀ a b : Nat, a < b → b < k → nm_it g x a ≠ nm_it g x b) : k ≤ 8 := by
  have hn : ((List.range k).map (nm_it g x)).Nodup := by
    rw [List.Nodup, List.pairwise_map]
    refine List.Pairwise.imp_of_mem ?_ (List.pairwise_lt_range (n := k))
    intro a b ha hb hab
    exact h a b hab (List.mem_range.mp hb)
  have := nm_php 8 _ hn (fun m hm => by
    obtain ⟨j, -, rfl⟩ := List.mem_map.mp hm
    have := nm_it_in hg hx j
    omega)
  rw [List.length_map, List.length_range] at this
  exact this
theorem nm_rho_u {g : Int → Int} {x : Int} {i k i' k' : Nat} (h : nm_rho g x i k) (h' : nm_rho g x i' k') : i = i' ∧ k = k' := by
  obtain ⟨a1, a2, a3⟩ := h
  obtain ⟨b1, b2, b3⟩ := h'
  have hk : k = k' := by
    rcases Nat.lt_trichotomy k k' with c | c | c
    · exact absurd a2.symm (b3 i k a1 c)
    · exact c
    · exact absurd b2.symm (a3 i' k' b1 c)
  subst hk
  refine ⟨?_, rfl⟩
  rcases Nat.lt_trichotomy i i' with c | c | c
  · exact absurd (a2.symm.trans b2) (a3 i i' c b1)
  · exact c
  · exact absurd (b2.symm.trans a2) (a3 i' i c a1)
/-- ahead of any there is such a one -/
theorem nm_rho_ex {g : Int → Int} {x : Int} (hg : ∀ p, 0 ≤ g p ∧ g p ≤ 7) (hx : 0 ≤ x ∧ x ≤ 7) : ∃ i k, nm_rho g x i k := by
  have step : ∀ k : Nat, (∃ i j, nm_rho g x i j) ∨ ∀ a b : Nat, a < b → b < k → nm_it g x a ≠ nm_it g x b := by
    intro k
    induction k with
    | zero => exact .inr (fun a b _ h => absurd h (by omega))
    | succ k ih =>
      rcases ih with h | h
      · exact .inl h
      · by_cases c : ∃ i, i < k ∧ nm_it g x k = nm_it g x i
        · obtain ⟨i, hi, e⟩ := c
          exact .inl ⟨i, k, hi, e, h⟩
        · refine .inr (fun a b hab hb => ?_)
          by_cases hbk : b = k
          · subst hbk
            exact fun e => c ⟨a, hab, e.symm⟩
          · exact h a b hab (by omega)
  rcases step 9 with h | h
  · exact h
  · have := nm_rho_le hg hx h
    omega
theorem nm_rho_per {g : Int → Int} {x : Int} {i k : Nat} (h : nm_rho g x i k) : ∀ n : Nat, nm_it g x (i + n + (k - i)) = nm_it g x (i + n)
  | 0 => by
    have := h.1
    rw [show i + 0 + (k - i) = k by omega]; exact h.2.1
  | n + 1 => by
    rw [show i + (n + 1) + (k - i) = (i + n + (k - i)) + 1 by omega]
    exact congrArg g (nm_rho_per h n)
theorem nm_rho_mod {g : Int → Int} {x : Int} {i k : Nat} (h : nm_rho g x i k) : ∀ n : Nat, nm_it g x (i + n) = nm_it g x (i + n % (k - i)) := by
  intro n
  induction n using Nat.strongRecOn with
  | ind n ih =>
    have hl := h.1
    by_cases hn : n < k - i
    · rw [Nat.mod_eq_of_lt hn]
    · have e := nm_rho_per h (n - (k - i))
      rw [show i + (n - (k - i)) + (k - i) = i + n by omega] at e
      rw [e, ih (n - (k - i)) (by omega), Nat.mod_eq_sub_mod (show n ≥ k - i by omega)]
/-- facing: the class -/
def nm_fa (g : Int → Int) (x w : Int) (i k : Nat) : Int := if w = 0 then (i : Int) else (k : Int) - (i : Int)
theorem nmc_264 {d : Nat} {v : Int} {M : am_M} {Q : List am_V → am_M → Prop} (a n : Int) (ha : 0 ≤ a) (ha2 : a < 247) (ht : nm_tyf a = (100, n)) (n0 : 0 ≤ n) (n1 : n ≤ 60000) (hL : nm_Lay M) (hk : nm_lk [(a, 0, n)] = true) (hQ : ∀ M', nm_Fr [(a, 0, n)] M M' → (∀ i, 0 ≤ i → i < n → am_gt M' a i = v) → Q [] M') : am_CL d 264 [(2, a), (0, v)] M Q := by
  have ty : ∀ {M1}, nm_Fr [(a, 0, n)] M M1 → am_kd M1 a = 100 ∧ am_ln M1 a = n := fun F => by
    have := (nm_Lay_fr hL F hk).1 a ha ha2
    rw [ht] at this
    exact ⟨congrArg Prod.fst this, congrArg Prod.snd this⟩
  refine (show am_WP d am_c264 0 [(2, a), (0, v), (9, 0), (9, 0)] [] M _ from g_264_0 ⟨(ty (nm_Fg_refl _ _)).1, ?_⟩)
  rw [(ty (nm_Fg_refl _ M)).2]
  have key : ∀ k : Nat, k ≤ n.toNat → ∀ M1, nm_Fr [(a, 0, n)] M M1 → (∀ i, 0 ≤ i → i < (k : Int) → am_gt M1 a i = v) → am_WP d am_c264 5 [(2, a), (0, v), (0, (k : Int)), (0, n)] [] M1 Q := by
    refine nm_dn ?_
    intro k hk' ih M1 F1 a1
    refine g_264_5 ⟨fun h => hQ M1 F1 (fun i x y => a1 i x (by omega)), fun h => ⟨(ty F1).1, by omega, by rw [(ty F1).2]; omega, ?_⟩⟩
    rw [nm_wk (by omega)]
    refine ih (by omega) _ (nm_Fr_st F1 (nm_in_c (lo := 0) (hi := n) (List.mem_singleton.mpr rfl) (by omega) (by omega))) (fun i x y => ?_)
    rw [nm_gt_st]
    by_cases hi : i = (k : Int)
    · rw [if_pos ⟨rfl, hi⟩]
    · rw [if_neg (fun c => hi c.2)]; exact a1 i x (by omega)
  exact key 0 (Nat.zero_le _) M (nm_Fg_refl _ _) (fun i x y => absurd y (by omega))
abbrev nm_fcg : nm_Rg := nm_Ag ++ [(27, 0, 8)]
theorem nmc_77 {d : Nat} {a b x w : Int} {X : nm_X} {M : am_M} {Q : List am_V → am_M → Prop} (hd : 6 ≤ d) (hC : nm_C M X) (hok : nm_ok X) (ha : 0 ≤ a ∧ a < nx_S X 0) (hb : 0 ≤ b ∧ b < nx_S X 0) (hx : 0 ≤ x ∧ x ≤ 7) {i k : Nat} (hr : nm_rho (nm_fg (nx_S X) (nx_W X) (nm_lwf (nx_S X) (nx_D X)) a b) x i k) (hQ : ∀ M', nm_Fr nm_fcg M M' → Q [(0, nm_fa (nm_fg (nx_S X) (nx_W X) (nm_lwf (nx_S X) (nx_D X)) a b) x w i k)] M') : am_CL d 77 [(2, 20), (0, a), (0, b), (0, x), (0, w)] M Q := by
  have hL := nm_C_L hC
  obtain ⟨-, hS, hO, hX⟩ := hC.1
  have o0 := hO.1
  have oW : nm_okW (nx_S X 0) (nx_W X) := hok.1.2.2.1
  have hk8 := nm_rho_le (fun _ => nm_fg_in) hx hr.2.2
  refine h_77_0 hL ⟨by omega, nmc_123 (by omega) hL hS hO hX (fun t ht => h_77_16 hL ⟨by omega, nmc_264 27 8 (by decide) (by decide) (by decide +kernel) (by decide) (by decide) hL (by decide +kernel) (fun M1 F1 e1 => ?_)⟩)⟩
  refine h_77_26 (nm_Lay_fr hL F1 (by decide +kernel)) ?_
  have key : ∀ s : Nat, s ≤ k → ∀ M2 l9, nm_Fr nm_fcg M M2 → (∀ q, 0 ≤ q → q < 8 → (∀ j : Nat, j < s → nm_it (nm_fg (nx_S X) (nx_W X) (nm_lwf (nx_S X) (nx_D X)) a b) x j ≠ q) → am_gt M2 27 q = -1) → (∀ j : Nat, j < s → am_gt M2 27 (nm_it (nm_fg (nx_S X) (nx_W X) (nm_lwf (nx_S X) (nx_D X)) a b) x j) = (j : Int)) → am_WP d am_c77 32 [(2, 20), (0, a), (0, b), (0, x), (0, w), (2, 11), (2, t), (0, nm_it (nm_fg (nx_S X) (nx_W X) (nm_lwf (nx_S X) (nx_D X)) a b) x s), (0, (s : Int)), l9] [] M2 Q := by
    refine nm_dn ?_
    intro s hs ih M2 l9 F2 g1 g2
    have C2 := nm_C_fr hC F2 (by decide +kernel)
    have hL2 := nm_C_L C2
    have bx := nm_it_in (g := nm_fg (nx_S X) (nx_W X) (nm_lwf (nx_S X) (nx_D X)) a b) (fun _ => nm_fg_in) hx s
    refine h_77_32 hL2 ⟨fun h => absurd h (by omega), fun _ => ⟨bx.1, by omega, ?_⟩⟩
    by_cases hsk : s = k
    · subst hsk
      have e : am_gt M2 27 (nm_it (nm_fg (nx_S X) (nx_W X) (nm_lwf (nx_S X) (nx_D X)) a b) x s) = (i : Int) := by rw [hr.2.1]; exact g2 i hr.1
      have hi := hr.1
      rw [e, am_w_id (by omega) (by omega)]
      have := hQ M2 F2
      unfold nm_fa at this
      refine ⟨fun h => absurd h (by omega), fun _ => ⟨fun hw => ?_, fun hw => ?_⟩⟩
      · rw [if_neg hw] at this; exact this
      · rw [if_pos (by omega)] at this; exact this
    · have e : am_gt M2 27 (nm_it (nm_fg (nx_S X) (nx_W X) (nm_lwf (nx_S X) (nx_D X)) a b) x s) = -1 := g1 _ bx.1 (by omega) (fun j hj => hr.2.2 j s hj (by omega))
      refine ⟨fun _ => ⟨by omega, ?_⟩, fun h => absurd e h⟩
      have F3 : nm_Fr nm_fcg M (am_st M2 27 (nm_it (nm_fg (nx_S X) (nx_W X) (nm_lwf (nx_S X) (nx_D X)) a b) x s) (s : Int)) := nm_Fr_st F2 (nm_in_c (a := 27) (lo := 0) (hi := 8) (by decide +kernel) bx.1 (by omega))
      have C3 := nm_C_fr hC F3 (by decide +kernel)
      refine nmc_58 (T := nm_lwf (nx_S X) (nx_D X)) (by omega) C3.1 (by decide) C3.2.1 oW (nm_tx_fr ht F3 (by decide +kernel)) ha.1 (by omega) (by omega) (by omega) bx (fun M4 F4 => ?_)
      have F04 : nm_Fr nm_fcg M M4 := nm_Fr_trans F3 (nm_Fr_appl F4)
      have C4 := nm_C_fr hC F04 (by decide +kernel)
      refine h_77_101 (nm_C_L C4) ⟨by omega, nmc_58 (T := nm_lwf (nx_S X) (nx_D X)) (by omega) C4.1 (by decide) C4.2.1 oW (nm_tx_fr ht F04 (by decide +kernel)) hb.1 (by omega) (by omega) (by omega) nm_made_in (fun M5 F5 => ?_)⟩
      have F05 : nm_Fr nm_fcg M M5 := nm_Fr_trans F04 (nm_Fr_appl F5)
      refine h_77_119 (nm_Lay_fr hL F05 (by decide +kernel)) ?_
      rw [nm_wk (by omega)]
      have e27 : ∀ q, am_gt M5 27 q = am_gt (am_st M2 27 (nm_it (nm_fg (nx_S X) (nx_W X) (nm_lwf (nx_S X) (nx_D X)) a b) x s) (s : Int)) 27 q := fun q => by rw [nm_gt_frn F5 (nm_C_L C4) (by decide) (by decide +kernel), nm_gt_frn F4 (nm_C_L C3) (by decide) (by decide +kernel)]
      refine ih (by omega) M5 _ F05 (fun q x0 x1 hq => ?_) (fun j hj => ?_)
      · rw [e27, nm_st_nj (fun c => hq s (by omega) c.symm)]
        exact g1 q x0 x1 (fun j hj => hq j (by omega))
      · rw [e27]
        by_cases hjs : j = s
        · subst hjs; rw [nm_st_eq]
        · rw [nm_st_nj (hr.2.2 j s (by omega) (by omega))]; exact g2 j (by omega)
  exact key 0 (Nat.zero_le _) M1 _ (nm_Fr_appr F1) (fun q x0 x1 _ => e1 q x0 x1) (fun j hj => absurd hj (by omega))
/-- face: the answer, by what there is to find -/
theorem nm_face_ex (X : nm_X) (a b x : Int) : ∃ r : Nat × Nat, (0 ≤ x ∧ x ≤ 7) → nm_rho (nm_fg (nx_S X) (nx_W X) (nm_lwf (nx_S X) (nx_D X)) a b) x r.1 r.2 := by
  by_cases hx : 0 ≤ x ∧ x ≤ 7
  · obtain ⟨i, k, h⟩ := nm_rho_ex (g := nm_fg (nx_S X) (nx_W X) (nm_lwf (nx_S X) (nx_D X)) a b) (fun _ => nm_fg_in) hx
    exact ⟨(i, k), fun _ => h⟩
  · exact ⟨(0, 0), fun h => absurd h hx⟩
noncomputable def nm_fr (X : nm_X) (a b x : Int) : Nat × Nat := Classical.choose (nm_face_ex X a b x)
theorem nm_fr_h {X : nm_X} {a b x : Int} (h : 0 ≤ x ∧ x ≤ 7) : nm_rho (nm_fg (nx_S X) (nx_W X) (nm_lwf (nx_S X) (nx_D X)) a b) x (nm_fr X a b x).1 (nm_fr X a b x).2 := Classical.choose_spec (nm_face_ex X a b x) h
noncomputable def sp_30 (X : nm_X) (a b x w : Int) : nm_X × Int := (X, if (0 ≤ a ∧ a < nx_S X 0) ∧ (0 ≤ b ∧ b < nx_S X 0) ∧ (0 ≤ x ∧ x ≤ 7) ∧ (0 ≤ w ∧ w ≤ 1) then (if w = 0 then ((nm_fr X a b x).1 : Int) else ((nm_fr X a b x).2 : Int) - ((nm_fr X a b x).1 : Int)) else -1)
theorem nmp_30 {d : Nat} {a b x w : Int} {X : nm_X} {M : am_M} {Q : List am_V → am_M → Prop} (hd : 7 ≤ d) (hC : nm_C M X) (hok : nm_ok X) (hQ : nm_KC (sp_30 X a b x w).1 [(0, (sp_30 X a b x w).2)] M Q) : am_CL d 30 [(2, 0), (0, a), (0, b), (0, x), (0, w)] M Q := by
  have hL := nm_C_L hC
  obtain ⟨-, hS, hO, hX⟩ := hC.1
  have q := hQ M nm_cR hC
  unfold sp_30 at hQ q
  simp only at hQ q
  refine h_30_0 hL ⟨by omega, nmc_46 hL (fun a0 a1 => ?_) (fun a0 => ?_)⟩
  · rw [nm_s0 hS] at a1
    refine h_30_5 hL ⟨fun h => absurd h (by decide), fun _ => ⟨by omega, nmc_46 hL (fun b0 b1 => ?_) (fun b0 => ?_)⟩⟩
    · rw [nm_s0 hS] at b1
      refine h_30_13 hL ⟨fun h => absurd h (by decide), fun _ => ⟨by omega, nmc_48 hL (fun x0 x1 => ?_) (fun x0 => ?_)⟩⟩
      · refine h_30_20 hL ⟨fun h => absurd h (by decide), fun _ => ⟨fun w0 => ?_, fun w0 => ⟨fun w1 => ⟨by omega, ?_⟩, fun w1 => ?_⟩⟩⟩
        · rw [if_neg (by omega)] at q; exact q
        · rw [if_pos (by omega)] at hQ
          refine nmc_77 (by omega) hC hok ⟨a0, a1⟩ ⟨b0, b1⟩ ⟨x0, by omega⟩ (nm_fr_h ⟨x0, by omega⟩) (fun M1 F1 => h_30_48 (nm_Lay_fr hL F1 (by decide +kernel)) ?_)
          exact hQ M1 (nm_cF F1 (by decide +kernel)) (nm_C_fr hC F1 (by decide +kernel))
        · rw [if_neg (by omega)] at q; exact q
      · rw [if_neg (by omega)] at q
        exact h_30_20 hL ⟨fun _ => q, fun h => absurd rfl h⟩
    · rw [nm_s0 hS] at b0
      rw [if_neg (by omega)] at q
      exact h_30_13 hL ⟨fun _ => q, fun h => absurd rfl h⟩
  · rw [nm_s0 hS] at a0
    rw [if_neg (by omega)] at q
    exact h_30_5 hL ⟨fun _ => q, fun h => absurd rfl h⟩
/-- the reference: bits of eight -/
def nm_b8 (c k : Int) : Int := c / 2 ^ k.toNat % 2
theorem nm_b8_dec : ∀ c, c < 256 → ∀ k, k < 8 → am_and (am_shr ((c : Nat) : Int) ((k : Nat) : Int)) 1 = nm_b8 (c : Int) (k : Int) := by decide +kernel
theorem nm_o8_dec : ∀ c, c < 256 → ∀ a, a < 8 → (0 ≤ am_or ((c : Nat) : Int) (am_shl 1 ((a : Nat) : Int)) ∧ am_or (c : Int) (am_shl 1 (a : Int)) ≤ 255) ∧ ∀ k, k < 8 → nm_b8 (am_or (c : Int) (am_shl 1 (a : Int))) ((k : Nat) : Int) = if k = a then 1 else nm_b8 (c : Int) (k : Int) := by decide +kernel
theorem nm_o8 {c a : Int} (c0 : 0 ≤ c) (c1 : c ≤ 255) (a0 : 0 ≤ a) (a1 : a ≤ 7) : (0 ≤ am_or c (am_shl 1 a) ∧ am_or c (am_shl 1 a) ≤ 255) ∧ ∀ k, 0 ≤ k → k ≤ 7 → nm_b8 (am_or c (am_shl 1 a)) k = if k = a then 1 else nm_b8 c k := by
  obtain ⟨n, hn, rfl⟩ := nm_nat (n := 256) c0 (by omega)
  obtain ⟨m, hm, rfl⟩ := nm_nat (n := 8) a0 (by omega)
  refine ⟨(nm_o8_dec n hn m hm).1, fun k k0 k1 => ?_⟩
  obtain ⟨j, hj, rfl⟩ := nm_nat (n := 8) k0 (by omega)
  rw [(nm_o8_dec n hn m hm).2 j hj]
  by_cases h : j = m
  · rw [if_pos h, if_pos (by omega)]
  · rw [if_neg h, if_neg (by omega)]
theorem nmm_143b {d : Nat} {b k : Int} {M : am_M} {Q : List am_V → am_M → Prop} (hL : nm_Lay M) (b0 : 0 ≤ b) (b1 : b ≤ 255) (k0 : 0 ≤ k) (k1 : k ≤ 7) (h1 : nm_b8 b k = 1 → Q [(0, 1)] M) (h0 : nm_b8 b k ≠ 1 → Q [(0, 0)] M) : am_CL d 143 [(0, b), (0, k)] M Q := by
  refine h_143_0 hL ?_
  have e : am_and (am_shr b k) 1 = nm_b8 b k := by
    obtain ⟨n, hn, rfl⟩ := nm_nat (n := 256) b0 (by omega)
    obtain ⟨m, hm, rfl⟩ := nm_nat (n := 8) k0 (by omega)
    exact nm_b8_dec n hn m hm
  rw [e]
  exact ⟨fun h => h0 h, fun h => h1 (by omega)⟩
theorem nmq_30 {d : Nat} {a b x w : Int} {X : nm_X} {M : am_M} {Q : List am_V → am_M → Prop} (hd : 9 ≤ d) (hok : nm_ok X) (hM : nm_M M X) (hQ : nm_KM (sp_30 X a b x w).1 [(0, (sp_30 X a b x w).2)] M Q) : am_CL d 240 [(2, 214), (0, a), (0, b), (0, x), (0, w)] M Q := by
  have F0 := nm_m0F (M := M)
  have hM0 := nm_m0 hok hM
  have hM1 := hM0
  have hL := nm_M_L hM0
  refine h_240_0 (nm_M_L hM) ⟨by omega, ?_⟩
  generalize am_st M 214 0 0 = M0 at F0 hM0 hM1 hL ⊢
  obtain ⟨m1, m2, m3, m4, m5, m6⟩ := hM1
  have m1' := m1
  obtain ⟨a1, hS, hW, hO, hX, a6⟩ := m1
  have oW : nm_okW (nx_S X 0) (nx_W X) := hok.1.2.2.1
  have o0 := hO.1
  have q := hQ M0 F0 hM0
  unfold sp_30 at hQ q
  simp only at hQ q
  refine nmm_154 (by omega) hL hS hO (fun a0 a1 => ?_) (fun a0 => ?_)
  · refine h_240_10 hL ⟨fun h => absurd h (by decide), fun _ => ⟨by omega, nmm_154 (by omega) hL hS hO (fun b0 b1 => ?_) (fun b0 => ?_)⟩⟩
    · refine h_240_18 hL ⟨fun h => absurd h (by decide), fun _ => ⟨by omega, nmm_155 (by omega) hL (fun x0 x1 => ?_) (fun x0 => ?_)⟩⟩
      · refine h_240_25 hL ⟨fun h => absurd h (by decide), fun _ => ⟨by omega, nmm_142 hL (fun w0 w1 => ?_) (fun w0 => ?_)⟩⟩
        · rw [if_pos (by omega)] at hQ
          have hx : 0 ≤ x ∧ x ≤ 7 := ⟨x0, by omega⟩
          have hr := nm_fr_h (X := X) (a := a) (b := b) hx
          generalize nm_fr X a b x = r at hQ hr
          obtain ⟨i, k⟩ := r
          simp only at hQ hr
          have hk8 := nm_rho_le (fun _ => nm_fg_in) hx hr.2.2
          have hik := hr.1
          refine h_240_36 hL ⟨fun _ => ?_, fun h => absurd h (by decide)⟩
          generalize hg : nm_fg (nx_S X) (nx_W X) (nm_lwf (nx_S X) (nx_D X)) a b = g at hr
          have gin : ∀ p, 0 ≤ g p ∧ g p ≤ 7 := fun p => by rw [← hg]; exact nm_fg_in
          have bx := nm_it_in gin hx
          -- the rows are laid
          have lay : ∀ p : Nat, p ≤ 8 → ∀ M1, nm_Fr (nm_tg ++ [(242, 0, 8)]) M0 M1 → (∀ j, 0 ≤ j → j < (p : Int) → am_gt M1 242 j = g j) → am_WP d am_c240 44 [(2, 214), (0, a), (0, b), (0, x), (0, w), (0, (p : Int)), (9, 0), (9, 0), (9, 0), (9, 0)] [] M1 Q := by
            refine nm_dn ?_
            intro p hp ih M1 F1 e1
            have hA1 := nm_MA_fr m1' F1 (by decide +kernel) (by decide +kernel) (by decide +kernel)
            refine h_240_44 hA1.1 ⟨fun h => ?_, fun h => ⟨by omega, nm_m207 (by omega) hA1 oW a0 (by omega) (by omega) (by omega) (by omega) (fun M2 F2 => ?_)⟩⟩
            · have hp8 : p = 8 := by omega
              subst hp8
              have e1' : ∀ j, 0 ≤ j → j ≤ 7 → am_gt M1 242 j = g j := fun j y z => e1 j y (by omega)
              have fin := hQ M1 (nm_Fr_trans F0 (nm_mF F1 (by decide +kernel))) (nm_M_fr hok hM0 F1 (by decide +kernel))
              -- steps
              have steps : ∀ (set : Int) (ring : Int), 0 ≤ set → set ≤ 255 → ring = (k : Int) - (i : Int) → (∀ n : Nat, n < k → (nm_b8 set (nm_it g x n) = 1 ↔ i ≤ n)) → ∀ n : Nat, n ≤ i → ∀ z5, am_WP d am_c240 160 [(2, 214), (0, a), (0, b), (0, x), (0, w), (0, z5), (0, ring), (0, nm_it g x n), (0, set), (0, (n : Int))] [] M1 Q := by
                intro set ring s0 s1 er hs
                refine nm_dn ?_
                intro n hn ihn z5
                refine h_240_160 hA1.1 ⟨by omega, nmm_143b hA1.1 s0 s1 (bx n).1 (bx n).2 (fun hb => ?_) (fun hb => ?_)⟩
                · have hni : n = i := by have := (hs n (by omega)).mp hb; omega
                  subst hni
                  refine h_240_167 hA1.1 ⟨fun _ => ⟨fun hw => ?_, fun hw => ?_⟩, fun h => absurd h (by decide)⟩
                  · rw [if_neg hw] at fin; rw [er]; exact fin
                  · rw [if_pos (by omega)] at fin; exact fin
                · have hni : n < i := by
                    by_cases hc : i ≤ n
                    · exact absurd ((hs n (by omega)).mpr hc) hb
                    · omega
                  refine h_240_167 hA1.1 ⟨fun h => absurd rfl h, fun _ => ⟨(bx n).1, by have := (bx n).2; omega, ?_⟩⟩
                  rw [e1' _ (bx n).1 (bx n).2, nm_wk (by omega)]
                  exact ihn hni z5
              -- the ring
              have ring : ∀ r : Nat, r ≤ k - i → ∀ set, 0 ≤ set → set ≤ 255 → (∀ p, 0 ≤ p → p ≤ 7 → (nm_b8 set p = 1 ↔ ∃ t : Nat, t < r ∧ nm_it g x (8 + t) = p)) → am_WP d am_c240 118 [(2, 214), (0, a), (0, b), (0, x), (0, w), (0, nm_it g x 8), (0, (r : Int)), (0, nm_it g x (8 + r)), (0, set), (9, 0)] [] M1 Q := by
                have md : ∀ t : Nat, nm_it g x (8 + t) = nm_it g x (i + (8 - i + t) % (k - i)) := fun t => by
                  have := nm_rho_mod hr (8 - i + t)
                  rw [show i + (8 - i + t) = 8 + t by omega] at this
                  exact this
                refine nm_dn ?_
                intro r hrk ihr set s0 s1 hs
                have b8 := bx (8 + r)
                have go : r < k - i → (0 : Int) ≤ nm_it g x (8 + r) ∧ nm_it g x (8 + r) < 8 ∧ am_WP d am_c240 118 [(2, 214), (0, a), (0, b), (0, x), (0, w), (0, nm_it g x 8), (0, am_w ((r : Int) + 1)), (0, am_gt M1 242 (nm_it g x (8 + r))), (0, am_or set (am_shl 1 (nm_it g x (8 + r)))), (9, 0)] [] M1 Q := by
                  intro hlt
                  obtain ⟨t0, t1⟩ := nm_o8 s0 s1 b8.1 b8.2
                  refine ⟨b8.1, by omega, ?_⟩
                  rw [e1' _ b8.1 b8.2, nm_wk (by omega)]
                  refine ihr hlt _ t0.1 t0.2 (fun p p0 p1 => ?_)
                  rw [t1 p p0 p1]
                  by_cases hp : p = nm_it g x (8 + r)
                  · rw [if_pos hp]
                    exact ⟨fun _ => ⟨r, by omega, hp.symm⟩, fun _ => rfl⟩
                  · rw [if_neg hp, hs p p0 p1]
                    constructor
                    · rintro ⟨t, h1, h2⟩; exact ⟨t, by omega, h2⟩
                    · rintro ⟨t, h1, h2⟩
                      refine ⟨t, ?_, h2⟩
                      by_cases htr : t = r
                      · subst htr; exact absurd h2.symm hp
                      · omega
                refine h_240_118 hA1.1 ⟨fun hz => go (by omega), fun hz => ⟨fun he => ?_, fun he => ?_⟩⟩
                · have hre : r = k - i := by
                    by_cases hc : r = k - i
                    · exact hc
                    · exfalso
                      have e8 := md 0
                      have er := md r
                      rw [Nat.add_zero] at e8
                      have hl : 0 < k - i := by omega
                      have m1 := Nat.mod_lt (8 - i) hl
                      have m2 := Nat.mod_lt (8 - i + r) hl
                      have hne : (8 - i + r) % (k - i) ≠ (8 - i) % (k - i) := by
                        intro hc2
                        have h3 := Nat.sub_mod_eq_zero_of_mod_eq hc2
                        rw [show 8 - i + r - (8 - i) = r by omega, Nat.mod_eq_of_lt (by omega)] at h3
                        omega
                      have e9 : nm_it g x (8 + 0) = nm_it g x 8 := rfl
                      rw [e9, show 8 - i + 0 = 8 - i by omega] at e8
                      rw [er, e8] at he
                      rcases Nat.lt_or_gt_of_ne hne with hc3 | hc3
                      · exact hr.2.2 _ _ (Nat.add_lt_add_left hc3 i) (by omega) he
                      · exact hr.2.2 _ _ (Nat.add_lt_add_left hc3 i) (by omega) he.symm
                  subst hre
                  refine steps set _ s0 s1 (by omega) (fun n hn => ?_) 0 (Nat.zero_le _) _
                  rw [hs _ (bx n).1 (bx n).2]
                  constructor
                  · rintro ⟨t, ht, e⟩
                    by_cases hc : i ≤ n
                    · exact hc
                    · exfalso
                      rw [md t] at e
                      have m2 := Nat.mod_lt (8 - i + t) (show 0 < k - i by omega)
                      exact hr.2.2 n _ (by omega) (by omega) e.symm
                  · intro hc
                    -- t with (8 - i + t) % (k - i) = n - i
                    have hl : 0 < k - i := by omega
                    have m1 := Nat.mod_lt (8 - i) hl
                    refine ⟨(n - i + (k - i) - (8 - i) % (k - i)) % (k - i), Nat.mod_lt _ hl, ?_⟩
                    rw [md]
                    have h5 : (8 - i + (n - i + (k - i) - (8 - i) % (k - i)) % (k - i)) % (k - i) = n - i := by
                      rw [Nat.add_mod, Nat.mod_mod, ← Nat.add_mod]
                      have h6 : 8 - i = (8 - i) % (k - i) + (k - i) * ((8 - i) / (k - i)) := (Nat.mod_add_div _ _).symm
                      have h7 : 8 - i + (n - i + (k - i) - (8 - i) % (k - i)) = (n - i) + (k - i) * ((8 - i) / (k - i) + 1) := by
                        rw [Nat.mul_add, Nat.mul_one]; omega
                      rw [h7, Nat.add_mul_mod_self_left, Nat.mod_eq_of_lt (by omega)]
                    rw [h5, show i + (n - i) = n by omega]
                · by_cases hc : r = k - i
                  · exfalso
                    refine he ?_
                    rw [hc]
                    have := nm_rho_per hr (8 - i)
                    rw [show i + (8 - i) + (k - i) = 8 + (k - i) by omega, show i + (8 - i) = 8 by omega] at this
                    exact this
                  · exact go (by omega)
              -- eight steps
              have eight : ∀ n : Nat, n ≤ 8 → am_WP d am_c240 86 [(2, 214), (0, a), (0, b), (0, x), (0, w), (0, nm_it g x n), (0, (n : Int)), (9, 0), (9, 0), (9, 0)] [] M1 Q := by
                refine nm_dn ?_
                intro n hn ihn
                refine h_240_86 hA1.1 ⟨fun h => ?_, fun h => ⟨(bx n).1, by have := (bx n).2; omega, ?_⟩⟩
                · have hn8 : n = 8 := by omega
                  subst hn8
                  refine ring 0 (Nat.zero_le _) 0 (by decide) (by decide) (fun p p0 p1 => ⟨fun h => ?_, fun h => ?_⟩)
                  · exfalso
                    have : nm_b8 0 p = 0 := by unfold nm_b8; rw [Int.zero_ediv]; rfl
                    omega
                  · obtain ⟨t, ht, -⟩ := h
                    omega
                · rw [e1' _ (bx n).1 (bx n).2, nm_wk (by omega)]
                  exact ihn (by omega)
              exact eight 0 (Nat.zero_le _)
            · have F02 : nm_Fr (nm_tg ++ [(242, 0, 8)]) M0 M2 := nm_Fr_trans F1 (nm_Fr_appl F2)
              have hA2 := nm_MA_fr m1' F02 (by decide +kernel) (by decide +kernel) (by decide +kernel)
              refine h_240_70 hA2.1 ⟨by omega, nm_m207 (by omega) hA2 oW b0 (by omega) (by omega) (by omega) nm_made_in (fun M3 F3 => ?_)⟩
              have F03 : nm_Fr (nm_tg ++ [(242, 0, 8)]) M0 M3 := nm_Fr_trans F02 (nm_Fr_appl F3)
              refine h_240_73 (nm_Lay_fr hL F03 (by decide +kernel)) ⟨by omega, by omega, ?_⟩
              rw [nm_wk (by omega)]
              refine ih (by omega) _ (nm_Fr_st F03 (nm_in_c (a := 242) (lo := 0) (hi := 8) (by decide +kernel) (by omega) (by omega))) (fun j y z => ?_)
              rw [nm_gt_st]
              by_cases hj : j = (p : Int)
              · rw [if_pos ⟨rfl, hj⟩, hj, ← hg]; rfl
              · rw [if_neg (fun c => hj c.2), nm_gt_frn F3 hA2.1 (by decide) (by decide +kernel), nm_gt_frn F2 hA1.1 (by decide) (by decide +kernel)]; exact e1 j y (by omega)
          exact lay 0 (Nat.zero_le _) M0 (nm_Fg_refl _ _) (fun j y z => absurd z (by omega))
        · rw [if_neg (by omega)] at q
          exact h_240_36 hL ⟨fun h => absurd rfl h, fun _ => q⟩
      · rw [if_neg (by omega)] at q
        exact h_240_25 hL ⟨fun _ => q, fun h => absurd rfl h⟩
    · rw [if_neg (by omega)] at q
      exact h_240_18 hL ⟨fun _ => q, fun h => absurd rfl h⟩
  · rw [if_neg (by omega)] at q
    exact h_240_10 hL ⟨fun _ => q, fun h => absurd rfl h⟩
