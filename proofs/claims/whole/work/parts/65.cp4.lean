/-! WAGES, UNIONS, FACING, TWINS, YEARS: specs, and the class's way -/
def nm_wsm (f : Int → Int) : List Int → Int
  | [] => 0
  | a :: l => f a + nm_wsm f l
theorem nm_wsm_app (f : Int → Int) : ∀ l r : List Int, nm_wsm f (l ++ r) = nm_wsm f l + nm_wsm f r
  | [], r => by show nm_wsm f r = 0 + _; omega
  | a :: l, r => by show f a + nm_wsm f (l ++ r) = f a + nm_wsm f l + _; rw [nm_wsm_app f l r]; omega
theorem nm_wsm_in {f : Int → Int} (h : ∀ q, 0 ≤ f q ∧ f q ≤ 99) : ∀ l : List Int, 0 ≤ nm_wsm f l ∧ nm_wsm f l ≤ 99 * (l.length : Int)
  | [] => ⟨Int.le_refl _, by show (0 : Int) ≤ 99 * ((0 : Nat) : Int); omega⟩
  | a :: l => by
    have h1 := nm_wsm_in h l
    have h2 := h a
    show 0 ≤ f a + nm_wsm f l ∧ f a + nm_wsm f l ≤ 99 * ((l.length + 1 : Nat) : Int)
    omega
theorem nm_pay_in {S : Int → Int} {W : nm_W} {T : nm_T} (q : Int) : 0 ≤ nm_pay S W T q ∧ nm_pay S W T q ≤ 99 := by
  unfold nm_pay
  split
  · omega
  · exact nm_cut_in (by decide)
def sp_36 (X : nm_X) (l : Int) : nm_X × Int := (X, if l = -1 ∨ (0 ≤ l ∧ l < nx_S X 2) then nm_wsm (nm_pay (nx_S X) (nx_W X) (nm_lw (nx_S X) (nx_D X) l)) (nm_all (nx_S X) (nx_W X) (nm_lw (nx_S X) (nx_D X) l) (nx_S X 7)) else -1)
theorem nmp_36 {d : Nat} {l : Int} {X : nm_X} {M : am_M} {Q : List am_V → am_M → Prop} (hd : 6 ≤ d) (hC : nm_C M X) (hok : nm_ok X) (hQ : nm_KC (sp_36 X l).1 [(0, (sp_36 X l).2)] M Q) : am_CL d 36 [(2, 0), (0, l)] M Q := by
  have hL := nm_C_L hC
  have hC0 := hC
  have oW : nm_okW (nx_S X 0) (nx_W X) := hok.1.2.2.1
  have q := hQ M nm_cR hC0
  unfold sp_36 at hQ q
  simp only at hQ q
  obtain ⟨c1, c2, c3, c4, c5, c6, c7, c8, c9, c10, c11, c12⟩ := hC
  obtain ⟨-, hS, hO, hX⟩ := c1
  have s2 := nm_s2 hS
  have o0 := hO.1
  have o7 := hO.2.2.2.2.2.2.1
  have l6 := c2.2.2.1
  generalize hT : nm_lw (nx_S X) (nx_D X) l = T at hQ
  have go : (l = -1 ∨ (0 ≤ l ∧ l < nx_S X 2)) → am_CL (d - 1) 122 [(2, 1), (0, l)] M (fun r M' => am_WP d am_c36 23 [(2, 0), (0, l), (9, 0), (9, 0), (9, 0), (9, 0), (9, 0), (9, 0), (9, 0), (9, 0)] (r ++ []) M' Q) := by
    intro hl
    rw [if_pos hl] at hQ
    refine nmc_122 hL hS hO hX (fun t ht => h_36_23 hL ?_)
    rw [hT] at ht
    have outer : ∀ p, p ≤ (nx_W X).2.1.length → ∀ (M1 : am_M) (l6 l7 l8 l9 : am_V), nm_Fr nm_Ag M M1 → am_WP d am_c36 38 [(2, 0), (0, l), (2, t), (2, 11), (0, nm_wsm (nm_pay (nx_S X) (nx_W X) T) (nm_ps (nx_S X) (nx_W X) T (nx_S X 7) p)), (0, (p : Int)), l6, l7, l8, l9] [] M1 Q := by
      refine nm_dn ?_
      intro p hp ih M1 v6 v7 v8 v9 F1
      have C1 := nm_C_fr hC0 F1 (by decide +kernel)
      have b2 : am_gt M1 11 1 = ((nx_W X).2.1.length : Int) := C1.2.1.2.1
      refine h_36_38 (nm_C_L C1) ?_
      rw [b2]
      refine ⟨fun h => ?_, fun h => ⟨by omega, by omega, ?_⟩⟩
      · have hpe : p = (nx_W X).2.1.length := by omega
        subst hpe
        exact hQ M1 (nm_cF F1 (by decide +kernel)) C1
      · have hpl : p < (nx_W X).2.1.length := by omega
        have hmm := oW.2.2.2.1 _ (nm_getD_mem hpl)
        rw [show am_gt M1 12 (p : Int) = _ from C1.2.1.2.2.2.1 p hpl, nm_wk (by omega)]
        have hpl8 := nm_ps_len (S := nx_S X) (W := nx_W X) (T := T) o7.2 p
        have inner : ∀ j, j ≤ (nx_S X 7 - (p : Int)).toNat → ∀ (M2 : am_M) (l8 l9 : am_V), nm_Fr nm_Ag M M2 → am_WP d am_c36 62 [(2, 0), (0, l), (2, t), (2, 11), (0, nm_wsm (nm_pay (nx_S X) (nx_W X) T) (nm_ps (nx_S X) (nx_W X) T (nx_S X 7) p ++ nm_hs (fun h => nm_mk (nx_S X) (nx_W X) T ((nx_W X).2.1.getD p 0) (p : Int) h) ((p : Int) + 1) j)), (0, (p : Int)), (0, (nx_W X).2.1.getD p 0), (0, ((p + 1 + j : Nat) : Int)), l8, l9] [] M2 Q := by
          refine nm_dn ?_
          intro j hj ihj M2 v8 v9 F2
          have C2 := nm_C_fr hC0 F2 (by decide +kernel)
          have hA2 := C2.1
          have W2 := C2.2.1
          obtain ⟨hL2, hS2, -, hX2⟩ := C2.1
          refine h_36_62 hL2 ?_
          rw [nm_s7 hS2]
          refine ⟨fun h => ?_, fun h => ⟨by omega, nmc_116 hL2 hS2 hO hmm.1 hmm.2 (by omega) (by omega) (by omega) ?_⟩⟩
          · have hje : j = (nx_S X 7 - (p : Int)).toNat := by omega
            rw [nm_wk (by omega)]
            have := ih (by omega) M2 (0, (nx_W X).2.1.getD p 0) (0, ((p + 1 + j : Nat) : Int)) v8 v9 F2
            rw [nm_ps_succ, ← hje] at this
            exact this
          · refine h_36_87 hL2 ⟨by omega, nmc_58 (T := T) (by omega) hA2 (by decide) W2 oW (nm_tx_fr ht F2 (by decide +kernel)) hmm.1 (by omega) (by omega) (by omega) (nm_seen_in hO hmm.1 hmm.2 (by omega)) (fun M3 F3 => ?_)⟩
            have F03 := nm_Fr_trans F2 F3
            have C3 := nm_C_fr hC0 F03 (by decide +kernel)
            have hin : 0 ≤ nm_made (nx_S X) (nx_W X) T ((nx_W X).2.1.getD p 0) (p : Int) ((p + 1 + j : Nat) : Int) (nm_seen (nx_S X) ((nx_W X).2.1.getD p 0) (p : Int) ((p + 1 + j : Nat) : Int)) ∧ nm_made (nx_S X) (nx_W X) T ((nx_W X).2.1.getD p 0) (p : Int) ((p + 1 + j : Nat) : Int) (nm_seen (nx_S X) ((nx_W X).2.1.getD p 0) (p : Int) ((p + 1 + j : Nat) : Int)) ≤ 7 := nm_made_in
            refine h_36_106 (nm_C_L C3) ⟨by omega, nmc_60 (T := T) (by omega) C3.1 (by decide) C3.2.1 oW (nm_tx_fr ht F03 (by decide +kernel)) hin (fun M4 F4 => ?_)⟩
            have F04 := nm_Fr_trans F03 F4
            refine h_36_121 (nm_Lay_fr hL F04 (by decide +kernel)) ?_
            have hl2 : (nm_ps (nx_S X) (nx_W X) T (nx_S X 7) p ++ nm_hs (fun h => nm_mk (nx_S X) (nx_W X) T ((nx_W X).2.1.getD p 0) (p : Int) h) ((p : Int) + 1) j).length ≤ 100 := by
              rw [List.length_append, nm_hs_len]; omega
            have hb := nm_wsm_in (f := nm_pay (nx_S X) (nx_W X) T) nm_pay_in (nm_ps (nx_S X) (nx_W X) T (nx_S X 7) p ++ nm_hs (fun h => nm_mk (nx_S X) (nx_W X) T ((nx_W X).2.1.getD p 0) (p : Int) h) ((p : Int) + 1) j)
            have hpp := nm_pay_in (S := nx_S X) (W := nx_W X) (T := T) (nm_made (nx_S X) (nx_W X) T ((nx_W X).2.1.getD p 0) (p : Int) ((p + 1 + j : Nat) : Int) (nm_seen (nx_S X) ((nx_W X).2.1.getD p 0) (p : Int) ((p + 1 + j : Nat) : Int)))
            rw [nm_wk (by omega), am_w_id (x := _ + _) (by omega) (by omega)]
            have := ihj (by omega) M4 (0, nm_seen (nx_S X) ((nx_W X).2.1.getD p 0) (p : Int) ((p + 1 + j : Nat) : Int)) (0, nm_made (nx_S X) (nx_W X) T ((nx_W X).2.1.getD p 0) (p : Int) ((p + 1 + j : Nat) : Int) (nm_seen (nx_S X) ((nx_W X).2.1.getD p 0) (p : Int) ((p + 1 + j : Nat) : Int))) F04
            rw [nm_hs_succ, ← List.append_assoc, nm_wsm_app] at this
            have e1 : nm_wsm (nm_pay (nx_S X) (nx_W X) T) [nm_mk (nx_S X) (nx_W X) T ((nx_W X).2.1.getD p 0) (p : Int) ((p : Int) + 1 + (j : Int))] = nm_pay (nx_S X) (nx_W X) T (nm_made (nx_S X) (nx_W X) T ((nx_W X).2.1.getD p 0) (p : Int) ((p + 1 + j : Nat) : Int) (nm_seen (nx_S X) ((nx_W X).2.1.getD p 0) (p : Int) ((p + 1 + j : Nat) : Int))) := by
              rw [show ((p + 1 + j : Nat) : Int) = (p : Int) + 1 + (j : Int) by omega]
              show _ + (0 : Int) = _
              rw [Int.add_zero]; rfl
            rw [e1] at this
            exact this
        have h0 := inner 0 (Nat.zero_le _) M1 v8 v9 F1
        rw [show nm_hs (fun h => nm_mk (nx_S X) (nx_W X) T ((nx_W X).2.1.getD p 0) (p : Int) h) ((p : Int) + 1) 0 = [] from rfl, List.append_nil] at h0
        exact h0
    exact outer 0 (Nat.zero_le _) M _ _ _ _ (nm_Fg_refl _ _)
  refine h_36_0 hL ⟨fun h => ⟨by omega, go (.inl h)⟩, fun h => ⟨by omega, nmc_47 hL (fun a0 a1 => h_36_10 hL ⟨fun _ => ⟨by omega, go (by omega)⟩, fun h => absurd h (by decide)⟩) (fun a0 => h_36_10 hL ⟨fun h => absurd rfl h, fun _ => ?_⟩)⟩⟩
  rw [if_neg (by omega)] at q
  exact q
/-- unions -/
def nm_ui (S : Int → Int) : Nat → Int → Int
  | 0, b => b
  | k + 1, b => if nm_bit (nm_ui S k b) (k : Int) = 1 then am_or (nm_ui S k b) (S (71 + (k : Int))) else nm_ui S k b
theorem nm_ui_s (S : Int → Int) (k : Nat) (b : Int) : nm_ui S (k + 1) b = if nm_bit (nm_ui S k b) (k : Int) = 1 then am_or (nm_ui S k b) (S (71 + (k : Int))) else nm_ui S k b := rfl
def nm_un (S : Int → Int) (n : Nat) : Nat → Int → Int
  | 0, b => b
  | k + 1, b => nm_ui S n (nm_un S n k b)
def nm_pop (b : Int) : Int := nm_bit b 0 + nm_bit b 1 + nm_bit b 2 + nm_bit b 3 + nm_bit b 4 + nm_bit b 5
theorem nm_pop_dec : ∀ b, b < 64 → ∀ c, c < 64 → nm_pop ((b : Nat) : Int) ≤ nm_pop (am_or (b : Int) ((c : Nat) : Int)) ∧ (nm_pop (am_or (b : Int) (c : Int)) = nm_pop (b : Int) → am_or (b : Int) (c : Int) = (b : Int)) ∧ 0 ≤ am_or (b : Int) (c : Int) ∧ am_or (b : Int) (c : Int) ≤ 63 := by decide +kernel
theorem nm_pop_or {b c : Int} (b0 : 0 ≤ b) (b1 : b ≤ 63) (c0 : 0 ≤ c) (c1 : c ≤ 63) : nm_pop b ≤ nm_pop (am_or b c) ∧ (nm_pop (am_or b c) = nm_pop b → am_or b c = b) ∧ 0 ≤ am_or b c ∧ am_or b c ≤ 63 := by
  obtain ⟨n, hn, rfl⟩ := nm_nat (n := 64) b0 (by omega)
  obtain ⟨m, hm, rfl⟩ := nm_nat (n := 64) c0 (by omega)
  exact nm_pop_dec n hn m hm
theorem nm_or2_dec : ∀ n, n < 7 → ∀ b, b < 2 ^ n → ∀ c, c < 2 ^ n → am_or ((b : Nat) : Int) ((c : Nat) : Int) < ((2 ^ n : Nat) : Int) := by decide +kernel
theorem nm_popn_dec : ∀ n, n < 7 → ∀ b, b < 2 ^ n → nm_pop ((b : Nat) : Int) ≤ ((n : Nat) : Int) := by decide +kernel
theorem nm_ui_ok {S : Int → Int} (hO : nm_okS S) {b : Int} (b0 : 0 ≤ b) (b1 : b ≤ 63) : ∀ k : Nat, k ≤ 6 → (0 ≤ nm_ui S k b ∧ nm_ui S k b ≤ 63) ∧ nm_pop b ≤ nm_pop (nm_ui S k b) ∧ (nm_pop (nm_ui S k b) = nm_pop b → nm_ui S k b = b)
  | 0, _ => ⟨⟨b0, b1⟩, Int.le_refl _, fun _ => rfl⟩
  | k + 1, hk => by
    obtain ⟨h1, h2, h3⟩ := nm_ui_ok hO b0 b1 k (by omega)
    have hc := hO.2.2.2.2.2.2.2.2.2.2.1 (k : Int) (by omega) (by omega)
    rw [nm_ui_s]
    by_cases hb : nm_bit (nm_ui S k b) (k : Int) = 1
    · rw [if_pos hb]
      obtain ⟨p1, p2, p3, p4⟩ := nm_pop_or h1.1 h1.2 hc.1 hc.2
      refine ⟨⟨p3, p4⟩, by omega, fun e => ?_⟩
      have e1 : nm_pop (nm_ui S k b) = nm_pop b := by omega
      rw [p2 (by omega)]; exact h3 e1
    · rw [if_neg hb]; exact ⟨h1, h2, h3⟩
theorem nm_ui_lt {S : Int → Int} {n : Nat} (hn : n ≤ 6) (hS : ∀ i : Nat, i < n → 0 ≤ S (71 + (i : Int)) ∧ S (71 + (i : Int)) < ((2 ^ n : Nat) : Int)) {b : Int} (b0 : 0 ≤ b) (b1 : b < ((2 ^ n : Nat) : Int)) : ∀ k : Nat, k ≤ n → 0 ≤ nm_ui S k b ∧ nm_ui S k b < ((2 ^ n : Nat) : Int)
  | 0, _ => ⟨b0, b1⟩
  | k + 1, hk => by
    obtain ⟨h1, h2⟩ := nm_ui_lt hn hS b0 b1 k (by omega)
    have hc := hS k (by omega)
    rw [nm_ui_s]
    by_cases hb : nm_bit (nm_ui S k b) (k : Int) = 1
    · rw [if_pos hb]
      obtain ⟨x, hx, ex⟩ := nm_nat h1 h2
      obtain ⟨y, hy, ey⟩ := nm_nat hc.1 hc.2
      have p2 : 2 ^ n ≤ 64 := Nat.le_trans (Nat.pow_le_pow_right (by decide) hn) (by decide)
      rw [ex, ey]
      refine ⟨?_, nm_or2_dec n (by omega) x hx y hy⟩
      exact (nm_pop_or (by omega) (by omega) (by omega) (by omega)).2.2.1
    · rw [if_neg hb]; exact ⟨h1, h2⟩
/-- behind n - 1 times round nothing more is reached -/
theorem nm_un_fix {S : Int → Int} (hO : nm_okS S) (hC : nm_okC S) {m : Int} (m0 : 0 ≤ m) (m1 : m < S 0) : ∀ j : Nat, nm_un S (S 0).toNat ((S 0).toNat - 1 + j) (2 ^ m.toNat) = nm_un S (S 0).toNat ((S 0).toNat - 1) (2 ^ m.toNat) := by
  have o0 := hO.1
  have oc := hO.2.2.2.2.2.2.2.2.2.2.1
  obtain ⟨n, hn⟩ : ∃ n : Nat, (S 0).toNat = n + 1 := ⟨(S 0).toNat - 1, by omega⟩
  obtain ⟨t, ht⟩ : ∃ t : Nat, m = (t : Int) := ⟨m.toNat, by omega⟩
  have htn : t < n + 1 := by omega
  have hS : ∀ i : Nat, i < n + 1 → 0 ≤ S (71 + (i : Int)) ∧ S (71 + (i : Int)) < ((2 ^ (n + 1) : Nat) : Int) := fun i hi => by
    have h1 := hC.1 (i : Int) (by omega) (by omega)
    rw [hn] at h1
    refine ⟨(oc (i : Int) (by omega) (by omega)).1, ?_⟩
    have e : ((2 : Int) ^ (n + 1)) = ((2 ^ (n + 1) : Nat) : Int) := by rw [Int.natCast_pow]; rfl
    rw [← e]; exact h1
  have p2 : 2 ^ (n + 1) ≤ 64 := Nat.le_trans (Nat.pow_le_pow_right (by decide) (show n + 1 ≤ 6 by omega)) (by decide)
  have eb : (2 : Int) ^ m.toNat = ((2 ^ t : Nat) : Int) := by rw [ht, Int.toNat_natCast, Int.natCast_pow]; rfl
  have hb0 : (2 : Nat) ^ t < 2 ^ (n + 1) := Nat.pow_lt_pow_right (by decide) htn
  have pop1 : ∀ t, t < 6 → nm_pop (((2 : Nat) ^ t : Nat) : Int) = 1 := by decide +kernel
  rw [hn, eb]
  have rng : ∀ k : Nat, 0 ≤ nm_un S (n + 1) k ((2 ^ t : Nat) : Int) ∧ nm_un S (n + 1) k ((2 ^ t : Nat) : Int) < ((2 ^ (n + 1) : Nat) : Int) := by
    intro k
    induction k with
    | zero => exact ⟨Int.natCast_nonneg _, Int.ofNat_lt.mpr hb0⟩
    | succ k ih => exact nm_ui_lt (by omega) hS ih.1 ih.2 (n + 1) (Nat.le_refl _)
  have grow : ∀ k : Nat, nm_un S (n + 1) (k + 1) ((2 ^ t : Nat) : Int) = nm_un S (n + 1) k ((2 ^ t : Nat) : Int) ∨ (k : Int) + 2 ≤ nm_pop (nm_un S (n + 1) (k + 1) ((2 ^ t : Nat) : Int)) := by
    intro k
    induction k with
    | zero =>
      obtain ⟨h1, h2, h3⟩ := nm_ui_ok hO (rng 0).1 (by have := (rng 0).2; omega) (n + 1) (by omega)
      by_cases e : nm_pop (nm_un S (n + 1) 1 ((2 ^ t : Nat) : Int)) = nm_pop (nm_un S (n + 1) 0 ((2 ^ t : Nat) : Int))
      · exact .inl (h3 e)
      · refine .inr ?_
        have e1 : nm_pop (nm_un S (n + 1) 0 ((2 ^ t : Nat) : Int)) = 1 := pop1 t (by omega)
        have h2' : nm_pop (nm_un S (n + 1) 0 ((2 ^ t : Nat) : Int)) ≤ nm_pop (nm_un S (n + 1) 1 ((2 ^ t : Nat) : Int)) := h2
        show ((0 : Nat) : Int) + 2 ≤ nm_pop (nm_un S (n + 1) 1 ((2 ^ t : Nat) : Int))
        omega
    | succ k ih =>
      obtain ⟨h1, h2, h3⟩ := nm_ui_ok hO (rng (k + 1)).1 (by have := (rng (k + 1)).2; omega) (n + 1) (by omega)
      rcases ih with e | e
      · left
        show nm_ui S (n + 1) (nm_un S (n + 1) (k + 1) _) = nm_ui S (n + 1) (nm_un S (n + 1) k _)
        rw [e]
      · by_cases e2 : nm_pop (nm_un S (n + 1) (k + 1 + 1) ((2 ^ t : Nat) : Int)) = nm_pop (nm_un S (n + 1) (k + 1) ((2 ^ t : Nat) : Int))
        · exact .inl (h3 e2)
        · right
          have h2' : nm_pop (nm_un S (n + 1) (k + 1) ((2 ^ t : Nat) : Int)) ≤ nm_pop (nm_un S (n + 1) (k + 1 + 1) ((2 ^ t : Nat) : Int)) := h2
          omega
  have fix : nm_un S (n + 1) (n + 1) ((2 ^ t : Nat) : Int) = nm_un S (n + 1) n ((2 ^ t : Nat) : Int) := by
    rcases grow n with e | e
    · exact e
    · exfalso
      obtain ⟨x, hx, ex⟩ := nm_nat (rng (n + 1)).1 (rng (n + 1)).2
      rw [ex] at e
      have := nm_popn_dec (n + 1) (by omega) x hx
      omega
  intro j
  rw [Nat.add_sub_cancel]
  induction j with
  | zero => rfl
  | succ j ih =>
    show nm_ui S (n + 1) (nm_un S (n + 1) (n + j) _) = _
    rw [ih]; exact fix
def sp_31 (X : nm_X) (m : Int) : nm_X × Int := (X, if 0 ≤ m ∧ m < nx_S X 0 then nm_un (nx_S X) (nx_S X 0).toNat ((nx_S X 0).toNat - 1) (2 ^ m.toNat) else -1)
theorem nm_shl1 {m : Int} (m0 : 0 ≤ m) (m1 : m < 6) : am_shl 1 m = 2 ^ m.toNat := by
  have : ∀ k, k < 6 → am_shl 1 ((k : Nat) : Int) = 2 ^ k := by decide +kernel
  obtain ⟨k, hk, rfl⟩ := nm_nat (n := 6) m0 m1
  rw [Int.toNat_natCast]; exact this k hk
theorem nm_un_in {S : Int → Int} (hO : nm_okS S) {b : Int} (b0 : 0 ≤ b) (b1 : b ≤ 63) {n : Nat} (hn : n ≤ 6) : ∀ k : Nat, 0 ≤ nm_un S n k b ∧ nm_un S n k b ≤ 63
  | 0 => ⟨b0, b1⟩
  | k + 1 => by
    have h := nm_un_in hO b0 b1 hn k
    exact (nm_ui_ok hO h.1 h.2 n hn).1
theorem nm_2m {m : Int} (m0 : 0 ≤ m) (m1 : m < 6) : 0 ≤ (2 : Int) ^ m.toNat ∧ (2 : Int) ^ m.toNat ≤ 63 := by
  have : ∀ k, k < 6 → 0 ≤ (2 : Int) ^ k ∧ (2 : Int) ^ k ≤ 63 := by decide +kernel
  exact this m.toNat (by omega)
theorem nmp_31 {d : Nat} {m : Int} {X : nm_X} {M : am_M} {Q : List am_V → am_M → Prop} (hd : 2 ≤ d) (hC : nm_C M X) (hQ : nm_KC (sp_31 X m).1 [(0, (sp_31 X m).2)] M Q) : am_CL d 31 [(2, 0), (0, m)] M Q := by
  have hL := nm_C_L hC
  have q := hQ M nm_cR hC
  unfold sp_31 at q
  simp only at q
  obtain ⟨-, hS, hO, hX⟩ := hC.1
  have o0 := hO.1
  have oc := hO.2.2.2.2.2.2.2.2.2.2.1
  refine h_31_0 hL ⟨by omega, nmc_46 hL (fun a0 a1 => ?_) (fun a0 => ?_)⟩
  · rw [nm_s0 hS] at a1
    rw [if_pos ⟨a0, a1⟩] at q
    have bm := nm_2m a0 (show m < 6 by omega)
    refine h_31_5 hL ⟨fun h => absurd h (by decide), fun _ => ⟨by omega, h_119_0 hL ?_⟩⟩
    rw [nm_shl1 a0 (by omega)]
    have outer : ∀ k : Nat, k ≤ (nx_S X 0).toNat - 1 → ∀ l4, am_WP (d - 1) am_c119 6 [(2, 1), (0, m), (0, nm_un (nx_S X) (nx_S X 0).toNat k (2 ^ m.toNat)), (0, (k : Int) + 1), l4] [] M (fun r M' => am_WP d am_c31 16 [(2, 0), (0, m)] (r ++ []) M' Q) := by
      refine nm_dn ?_
      intro k hk ih l4
      have br := nm_un_in hO bm.1 bm.2 (n := (nx_S X 0).toNat) (by omega) k
      refine h_119_6 hL ?_
      rw [nm_s0 hS]
      refine ⟨fun h => ?_, fun h => ?_⟩
      · have hke : k = (nx_S X 0).toNat - 1 := by omega
        subst hke
        exact h_31_16 hL q
      · have inner : ∀ j : Nat, j ≤ (nx_S X 0).toNat → am_WP (d - 1) am_c119 17 [(2, 1), (0, m), (0, nm_ui (nx_S X) j (nm_un (nx_S X) (nx_S X 0).toNat k (2 ^ m.toNat))), (0, (k : Int) + 1), (0, (j : Int))] [] M (fun r M' => am_WP d am_c31 16 [(2, 0), (0, m)] (r ++ []) M' Q) := by
          refine nm_dn ?_
          intro j hj ihj
          have bj := (nm_ui_ok hO br.1 br.2 j (by omega)).1
          refine h_119_17 hL ?_
          rw [nm_s0 hS, nm_wk (by omega)]
          refine ⟨fun h2 => ?_, fun h2 => ?_⟩
          · have hje : j = (nx_S X 0).toNat := by omega
            rw [am_w_id (x := (k : Int) + 1 + 1) (by omega) (by omega), hje]
            have := ih (by omega) (0, (((nx_S X 0).toNat : Nat) : Int))
            rw [show ((k + 1 : Nat) : Int) = (k : Int) + 1 by omega] at this
            exact this
          · rw [nm_bit_and bj.1 bj.2 (by omega) (by omega), nm_scrack hS (by omega) (by omega)]
            have := ihj (by omega)
            refine ⟨fun hb => ?_, fun hb => ⟨by omega, by omega, ?_⟩⟩
            · have e : nm_ui (nx_S X) (j + 1) (nm_un (nx_S X) (nx_S X 0).toNat k (2 ^ m.toNat)) = nm_ui (nx_S X) j (nm_un (nx_S X) (nx_S X 0).toNat k (2 ^ m.toNat)) := if_neg hb
              rw [e] at this; exact this
            · have e : nm_ui (nx_S X) (j + 1) (nm_un (nx_S X) (nx_S X 0).toNat k (2 ^ m.toNat)) = am_or (nm_ui (nx_S X) j (nm_un (nx_S X) (nx_S X 0).toNat k (2 ^ m.toNat))) (nx_S X (71 + (j : Int))) := if_pos (by omega)
              rw [e] at this; exact this
        exact inner 0 (Nat.zero_le _)
    exact outer 0 (Nat.zero_le _) _
  · rw [nm_s0 hS] at a0
    rw [if_neg (by omega)] at q
    exact h_31_5 hL ⟨fun _ => q, fun h => absurd rfl h⟩
/-- draws -/
def nm_dr (s : Int) : Int := (s * 1103 + 12345) % 1000003
theorem nm_dr_in (s : Int) : 0 ≤ nm_dr s ∧ nm_dr s < 1000003 := by unfold nm_dr; omega
def nm_yW (S : Int → Int) (T : nm_T) (W : nm_W) (m h : Int) : nm_W := if h = 0 then (if nm_hangR S W T m < 0 then W else nm_hangW W m) else if h = 1 then (if nm_ix W.2.1 m = -1 then W else nm_downW W (nm_ix W.2.1 m).toNat) else W
def nm_yr (S : Int → Int) (T : nm_T) : Nat → Int → nm_W → Int → nm_W × Int
  | 0, _, W, a => (W, a)
  | k + 1, s, W, a => if 999 ≤ W.1 then (W, a) else nm_yr S T k (nm_dr (nm_dr s)) (nm_pass S T (nm_yW S T W (nm_dr s % S 0) (nm_dr (nm_dr s) % 3))) (a + ((nm_all S (nm_yW S T W (nm_dr s % S 0) (nm_dr (nm_dr s) % 3)) T (S 7)).length : Int))
def sp_37 (X : nm_X) (s n : Int) : nm_X × Int := if s < 0 ∨ 1000000 < s ∨ n < 1 ∨ 60 < n then (nx_rf X (-1), -1) else if nx_S X 0 = 0 then (nx_rf X (-3), -3) else (nx_fn (ns_Y X (nm_up (nx_R X) 10 (nx_S X 0)) (nm_yr (nx_S X) (nm_lwf (nx_S X) (nx_D X)) n.toNat s (nx_W X) 0).1), (nm_yr (nx_S X) (nm_lwf (nx_S X) (nx_D X)) n.toNat s (nx_W X) 0).2)
theorem nm_hangR_cases {S : Int → Int} {W : nm_W} {T : nm_T} {m : Int} (h : 0 ≤ nm_hangR S W T m) : 0 ≤ m ∧ m < S 0 ∧ nm_ix W.2.1 m = -1 := by
  unfold nm_hangR at h
  split at h
  · omega
  · split at h
    · omega
    · rename_i h1 h2
      refine ⟨by omega, by omega, ?_⟩
      by_cases e : nm_ix W.2.1 m = -1
      · exact e
      · exact absurd (.inr (.inr (.inl e))) h2
theorem nm_yW_ok {n : Int} {S : Int → Int} {T : nm_T} {W : nm_W} {m h : Int} (hn : n = S 0) (ok : nm_okW n W) : nm_okW n (nm_yW S T W m h) ∧ (nm_yW S T W m h).1 = W.1 := by
  unfold nm_yW
  split
  · split
    · exact ⟨ok, rfl⟩
    · rename_i h1
      obtain ⟨a, b, c⟩ := nm_hangR_cases (S := S) (W := W) (T := T) (m := m) (by omega)
      exact ⟨nm_okW_hang ok a (by omega) (nm_ix_m1 c), rfl⟩
  · split
    · split
      · exact ⟨ok, rfl⟩
      · exact ⟨nm_okW_down ok, rfl⟩
    · exact ⟨ok, rfl⟩
abbrev nm_yg : nm_Rg := nm_Ag ++ nm_Wg 180
theorem nm_all_len {S : Int → Int} {W : nm_W} {T : nm_T} (h7 : S 7 ≤ 8) (h6 : W.2.1.length ≤ 6) : (nm_all S W T (S 7)).length ≤ 48 := by
  have h2 : (nm_all S W T (S 7)).length ≤ 8 * W.2.1.length := nm_ps_len h7 W.2.1.length
  omega
theorem nmp_37 {d : Nat} {s n : Int} {X : nm_X} {M : am_M} {Q : List am_V → am_M → Prop} (hd : 7 ≤ d) (hC : nm_C M X) (hok : nm_ok X) (hQ : nm_KC (sp_37 X s n).1 [(0, (sp_37 X s n).2)] M Q) : am_CL d 37 [(2, 0), (0, s), (0, n)] M Q := by
  have hL := nm_C_L hC
  have hC0 := hC
  have oW : nm_okW (nx_S X 0) (nx_W X) := hok.1.2.2.1
  obtain ⟨c1, c2, c3, c4, c5, c6, c7, c8, c9, c10, c11, c12⟩ := hC
  have hA := c1
  obtain ⟨-, hS, hO, hX⟩ := c1
  have s0 := nm_s0 hS
  have o0 := hO.1
  have o7 := hO.2.2.2.2.2.2.1
  have R1 : (s < 0 ∨ 1000000 < s ∨ n < 1 ∨ 60 < n) → 0 < d ∧ am_CL (d - 1) 43 [(2, 0), (0, (-1))] M (fun r M' => am_WP d am_c37 27 [(2, 0), (0, s), (0, n), (9, 0), (9, 0), (9, 0), (9, 0)] (r ++ []) M' Q) := by
    intro h
    unfold sp_37 at hQ; rw [if_pos h] at hQ
    exact ⟨by omega, nmp_ref (k := 37) (by decide) hC0 (fun M' L q => h_37_27 L q) hQ⟩
  refine h_37_0 hL ⟨fun h => R1 (.inl h), fun h1 => ⟨fun h => R1 (by omega), fun h2 => ⟨fun h => R1 (by omega), fun h3 => ⟨fun h4 => ?_, fun h => R1 (by omega)⟩⟩⟩⟩
  rw [s0]
  unfold sp_37 at hQ; rw [if_neg (by omega)] at hQ
  refine ⟨fun hz => ⟨by omega, nmc_136 (by omega) hL (by decide) (by decide) (by decide) c2 (fun M1 F1 V1 => ?_)⟩, fun hz => ?_⟩
  · rw [if_neg hz] at hQ
    have hL1 := nm_Lay_fr hL F1 (by decide +kernel)
    refine h_37_59 hL1 ?_
    have e10 : am_gt M1 1 0 = nx_S X 0 := by rw [nm_gt_frn F1 hL (by decide) (by decide +kernel)]; exact s0
    rw [e10]
    have F2 : nm_Fr (nm_yg ++ [(0, 14, 15)]) M (am_st M1 0 14 (nx_S X 0)) := nm_Fr_st (nm_Fr_sub F1 (by decide +kernel)) (by decide +kernel)
    have key : ∀ (f : Nat) (t : Int) (W : nm_W) (a : Int) (M2 : am_M) (l6 : am_V), (f : Int) ≤ n → 0 ≤ t → t < 1000003 → 0 ≤ a → a + 48 * (f : Int) ≤ 10000 → nm_Fr (nm_yg ++ [(0, 14, 15)]) M M2 → am_gt M2 0 14 = nx_S X 0 → nm_CW M2 180 W → nm_okW (nx_S X 0) W → nm_yr (nx_S X) (nm_lwf (nx_S X) (nx_D X)) f t W a = nm_yr (nx_S X) (nm_lwf (nx_S X) (nx_D X)) n.toNat s (nx_W X) 0 → am_WP d am_c37 78 [(2, 0), (0, s), (0, n), (0, a), (0, t), (0, n - (f : Int)), l6] [] M2 Q := by
      intro f
      induction f with
      | zero =>
        intro t W a M2 l6 hf t0 t1 a0 a1 F g14 W2 ok2 e
        have e' : (W, a) = nm_yr (nx_S X) (nm_lwf (nx_S X) (nx_D X)) n.toNat s (nx_W X) 0 := e
        rw [← e'] at hQ
        have hL2 := nm_Lay_fr hL F (by decide +kernel)
        obtain ⟨r0, r1, r2, r3, r5, r6, r7, r8, r9, r10⟩ := c11
        have C2 : nm_C M2 (ns_Y X (nm_up (nx_R X) 10 (nx_S X 0)) W) := ⟨nm_CA_fr hA F (by decide +kernel) (by decide +kernel) (by decide +kernel) (by decide +kernel), nm_CW_fr c2 hL (by decide) F (by decide +kernel), nm_TX_fr c3 (by decide) hL F (by decide +kernel), nm_TX_fr c4 (by decide) hL F (by decide +kernel), nm_TX_fr c5 (by decide) hL F (by decide +kernel), ⟨(nm_gt_frn F hL (by decide) (by decide +kernel)).trans c6.1, fun k => nm_CI_fr (c6.2 k) hL (by decide) (by decide) F (by decide +kernel) (by decide +kernel) (by decide +kernel) (by decide +kernel)⟩, ⟨(nm_gt_frn F hL (by decide) (by decide +kernel)).trans c7.1, fun k => nm_CI_fr (c7.2 k) hL (by decide) (by decide) F (by decide +kernel) (by decide +kernel) (by decide +kernel) (by decide +kernel)⟩, nm_CU_fr (.inl rfl) c8 hL F (by decide +kernel), nm_CUp_fr c9 hL (by decide) F (by decide +kernel), nm_CP_fr c10 hL F (by decide +kernel) (by decide +kernel), ⟨by rw [nm_gt_frd (g := [(0, 18, 19)]) F hL (by decide) (by decide +kernel) (by decide +kernel)]; exact r0, by rw [nm_gt_frd (g := [(184, 0, 1)]) F hL (by decide) (by decide +kernel) (by decide +kernel)]; exact r1, by rw [nm_gt_frd (g := [(184, 1, 2)]) F hL (by decide) (by decide +kernel) (by decide +kernel)]; exact r2, by rw [nm_gt_frd (g := [(184, 2, 3)]) F hL (by decide) (by decide +kernel) (by decide +kernel)]; exact r3, by rw [nm_gt_frd (g := [(184, 3, 4)]) F hL (by decide) (by decide +kernel) (by decide +kernel)]; exact r5, by rw [nm_gt_frd (g := [(184, 4, 5)]) F hL (by decide) (by decide +kernel) (by decide +kernel)]; exact r6, by rw [nm_gt_frd (g := [(0, 15, 16)]) F hL (by decide) (by decide +kernel) (by decide +kernel)]; exact r7, by rw [nm_gt_frd (g := [(0, 16, 17)]) F hL (by decide) (by decide +kernel) (by decide +kernel)]; exact r8, by rw [nm_gt_frd (g := [(0, 17, 18)]) F hL (by decide) (by decide +kernel) (by decide +kernel)]; exact r9, by rw [g14]; show _ = nm_up (nx_R X) 10 (nx_S X 0) 10; rw [nm_up_eq]⟩, .inr W2⟩
        exact h_37_78 hL2 ⟨fun _ => ⟨by omega, nmx_44 C2 (fun M3 F3 C3 => h_37_198 (nm_C_L C3) (hQ M3 (nm_cFF F F3 (by decide +kernel) (by decide) (by decide)) C3))⟩, fun h => absurd (show n ≤ n - ((0 : Nat) : Int) by omega) h⟩
      | succ f ih =>
        intro t W a M2 l6 hf t0 t1 a0 a1 F g14 W2 ok2 e
        have hL2 := nm_Lay_fr hL F (by decide +kernel)
        have hA2 : nm_CA M2 (nx_S X) (nx_D X) := nm_CA_fr hA F (by decide +kernel) (by decide +kernel) (by decide +kernel) (by decide +kernel)
        refine h_37_78 hL2 ?_
        rw [W2.1]
        refine ⟨fun h => absurd h (by omega), fun _ => ⟨fun hn => ⟨by omega, ?_⟩, fun hn => ⟨by omega, h_51_0 hL2 ?_⟩⟩⟩
        · have e' : (W, a) = nm_yr (nx_S X) (nm_lwf (nx_S X) (nx_D X)) n.toNat s (nx_W X) 0 := by
            rw [← e]; show _ = if 999 ≤ W.1 then _ else _; rw [if_pos hn]
          rw [← e'] at hQ
          obtain ⟨r0, r1, r2, r3, r5, r6, r7, r8, r9, r10⟩ := c11
          have C2 : nm_C M2 (ns_Y X (nm_up (nx_R X) 10 (nx_S X 0)) W) := ⟨nm_CA_fr hA F (by decide +kernel) (by decide +kernel) (by decide +kernel) (by decide +kernel), nm_CW_fr c2 hL (by decide) F (by decide +kernel), nm_TX_fr c3 (by decide) hL F (by decide +kernel), nm_TX_fr c4 (by decide) hL F (by decide +kernel), nm_TX_fr c5 (by decide) hL F (by decide +kernel), ⟨(nm_gt_frn F hL (by decide) (by decide +kernel)).trans c6.1, fun k => nm_CI_fr (c6.2 k) hL (by decide) (by decide) F (by decide +kernel) (by decide +kernel) (by decide +kernel) (by decide +kernel)⟩, ⟨(nm_gt_frn F hL (by decide) (by decide +kernel)).trans c7.1, fun k => nm_CI_fr (c7.2 k) hL (by decide) (by decide) F (by decide +kernel) (by decide +kernel) (by decide +kernel) (by decide +kernel)⟩, nm_CU_fr (.inl rfl) c8 hL F (by decide +kernel), nm_CUp_fr c9 hL (by decide) F (by decide +kernel), nm_CP_fr c10 hL F (by decide +kernel) (by decide +kernel), ⟨by rw [nm_gt_frd (g := [(0, 18, 19)]) F hL (by decide) (by decide +kernel) (by decide +kernel)]; exact r0, by rw [nm_gt_frd (g := [(184, 0, 1)]) F hL (by decide) (by decide +kernel) (by decide +kernel)]; exact r1, by rw [nm_gt_frd (g := [(184, 1, 2)]) F hL (by decide) (by decide +kernel) (by decide +kernel)]; exact r2, by rw [nm_gt_frd (g := [(184, 2, 3)]) F hL (by decide) (by decide +kernel) (by decide +kernel)]; exact r3, by rw [nm_gt_frd (g := [(184, 3, 4)]) F hL (by decide) (by decide +kernel) (by decide +kernel)]; exact r5, by rw [nm_gt_frd (g := [(184, 4, 5)]) F hL (by decide) (by decide +kernel) (by decide +kernel)]; exact r6, by rw [nm_gt_frd (g := [(0, 15, 16)]) F hL (by decide) (by decide +kernel) (by decide +kernel)]; exact r7, by rw [nm_gt_frd (g := [(0, 16, 17)]) F hL (by decide) (by decide +kernel) (by decide +kernel)]; exact r8, by rw [nm_gt_frd (g := [(0, 17, 18)]) F hL (by decide) (by decide +kernel) (by decide +kernel)]; exact r9, by rw [g14]; show _ = nm_up (nx_R X) 10 (nx_S X 0) 10; rw [nm_up_eq]⟩, .inr W2⟩
          exact nmx_44 C2 (fun M3 F3 C3 => h_37_198 (nm_C_L C3) (hQ M3 (nm_cFF F F3 (by decide +kernel) (by decide) (by decide)) C3))
        · have d1 : am_w ((am_wl ((am_wl (t * 1103)) + 12345)).tmod 1000003) = nm_dr t := by
            rw [am_wl_id (x := t * 1103) (by omega) (by omega), am_wl_id (by omega) (by omega), Int.tmod_eq_emod_of_nonneg (by omega), am_w_id (by omega) (by omega)]; rfl
          rw [d1]
          have b1 := nm_dr_in t
          have b2 := nm_dr_in (nm_dr t)
          refine h_37_102 hL2 ?_
          rw [g14]
          refine ⟨hz, by omega, h_51_0 hL2 ?_⟩
          have d2 : am_w ((am_wl ((am_wl (nm_dr t * 1103)) + 12345)).tmod 1000003) = nm_dr (nm_dr t) := by
            rw [am_wl_id (x := nm_dr t * 1103) (by omega) (by omega), am_wl_id (by omega) (by omega), Int.tmod_eq_emod_of_nonneg (by omega), am_w_id (by omega) (by omega)]; rfl
          rw [d2, Int.tmod_eq_emod_of_nonneg b1.1]
          have m0 := Int.emod_nonneg (nm_dr t) (show nx_S X 0 ≠ 0 from hz)
          have m1 := Int.emod_lt_of_pos (nm_dr t) (show 0 < nx_S X 0 by omega)
          have e3 : nm_yr (nx_S X) (nm_lwf (nx_S X) (nx_D X)) f (nm_dr (nm_dr t)) (nm_pass (nx_S X) (nm_lwf (nx_S X) (nx_D X)) (nm_yW (nx_S X) (nm_lwf (nx_S X) (nx_D X)) W (nm_dr t % nx_S X 0) (nm_dr (nm_dr t) % 3))) (a + ((nm_all (nx_S X) (nm_yW (nx_S X) (nm_lwf (nx_S X) (nx_D X)) W (nm_dr t % nx_S X 0) (nm_dr (nm_dr t) % 3)) (nm_lwf (nx_S X) (nx_D X)) (nx_S X 7)).length : Int)) = nm_yr (nx_S X) (nm_lwf (nx_S X) (nx_D X)) n.toNat s (nx_W X) 0 := by
            rw [← e]; show _ = if 999 ≤ W.1 then _ else _; rw [if_neg hn]
          obtain ⟨oky, hy1⟩ := nm_yW_ok (T := nm_lwf (nx_S X) (nx_D X)) (m := nm_dr t % nx_S X 0) (h := nm_dr (nm_dr t) % 3) rfl ok2
          have night : ∀ M3, nm_Fr (nm_yg ++ [(0, 14, 15)]) M M3 → am_gt M3 0 14 = nx_S X 0 → nm_CW M3 180 (nm_yW (nx_S X) (nm_lwf (nx_S X) (nx_D X)) W (nm_dr t % nx_S X 0) (nm_dr (nm_dr t) % 3)) → am_CL (d - 1) 63 [(2, 17), (2, 180)] M3 (fun r M' => am_WP d am_c37 174 [(2, 0), (0, s), (0, n), (0, a), (0, nm_dr (nm_dr t)), (0, n - ((f + 1 : Nat) : Int)), (0, nm_dr t % nx_S X 0)] (r ++ [(0, a)]) M' Q) := by
            intro M3 F3 g3 W3
            have hA3 : nm_CA M3 (nx_S X) (nx_D X) := nm_CA_fr hA F3 (by decide +kernel) (by decide +kernel) (by decide +kernel) (by decide +kernel)
            refine nmc_63 (by omega) hA3 (by decide) W3 oky (fun M4 F4 W4 => ?_)
            have F04 : nm_Fr (nm_yg ++ [(0, 14, 15)]) M M4 := nm_Fr_trans F3 (nm_Fr_appl F4)
            have hA4 : nm_CA M4 (nx_S X) (nx_D X) := nm_CA_fr hA F04 (by decide +kernel) (by decide +kernel) (by decide +kernel) (by decide +kernel)
            have hlen := nm_all_len (T := nm_lwf (nx_S X) (nx_D X)) o7.2 W3.2.2.1
            refine h_37_174 hA4.1 ⟨by omega, nmc_64 (by omega) hA4 (by decide) W4 (nm_okW_work oky) (fun M5 F5 W5 => ?_)⟩
            have F05 : nm_Fr (nm_yg ++ [(0, 14, 15)]) M M5 := nm_Fr_trans F04 (nm_Fr_appl F5)
            refine h_37_187 (nm_Lay_fr hL F05 (by decide +kernel)) ?_
            rw [am_w_id (x := a + _) (by omega) (by omega), am_w_id (x := n - _ + 1) (by omega) (by omega), show n - ((f + 1 : Nat) : Int) + 1 = n - (f : Int) by omega]
            exact ih _ _ _ M5 _ (by omega) b2.1 b2.2 (by omega) (by omega) F05 (by rw [nm_gt_frn F5 hA4.1 (by decide) (by decide +kernel), nm_gt_frn F4 hA3.1 (by decide) (by decide +kernel)]; exact g3) W5 (nm_okW_pass oky (by omega)) e3
          have mod3 : (nm_dr (nm_dr t)).tmod 3 = nm_dr (nm_dr t) % 3 := Int.tmod_eq_emod_of_nonneg b2.1
          refine h_37_118 hL2 ?_
          rw [mod3]
          refine ⟨fun c0 => ⟨fun c1 => ⟨by omega, ?_⟩, fun c1 => ⟨by omega, ?_⟩⟩, fun c0 => ⟨by omega, ?_⟩⟩
          · refine night M2 F g14 ?_
            unfold nm_yW; rw [if_neg c0, if_neg c1]; exact W2
          · refine nmc_138 (by omega) hL2 (by decide) W2 (fun ex => ?_) (fun j M3 hj ex F3 W3 => ?_)
            · refine h_37_161 hL2 ⟨by omega, night M2 F g14 ?_⟩
              unfold nm_yW; rw [if_neg c0, if_pos (by omega), if_pos ex]; exact W2
            · have F03 : nm_Fr (nm_yg ++ [(0, 14, 15)]) M M3 := nm_Fr_trans F (nm_Fr_sub F3 (by decide +kernel))
              refine h_37_161 (nm_Lay_fr hL F03 (by decide +kernel)) ⟨by omega, night M3 F03 (by rw [nm_gt_frn F3 hL2 (by decide) (by decide +kernel)]; exact g14) ?_⟩
              unfold nm_yW; rw [if_neg c0, if_pos (by omega), if_neg (by omega), ex]; exact W3
          · refine nmc_62 (by omega) hA2 (by decide) W2 ok2 (fun M3 hneg F3 => ?_) (fun M3 hpos hin F3 W3 => ?_)
            · have F03 : nm_Fr (nm_yg ++ [(0, 14, 15)]) M M3 := nm_Fr_trans F (nm_Fr_sub F3 (by decide +kernel))
              refine h_37_140 (nm_Lay_fr hL F03 (by decide +kernel)) ⟨by omega, night M3 F03 (by rw [nm_gt_frn F3 hL2 (by decide) (by decide +kernel)]; exact g14) ?_⟩
              unfold nm_yW; rw [if_pos (by omega), if_pos hneg]; exact nm_CW_fr W2 hL2 (by decide) F3 (by decide +kernel)
            · have F03 : nm_Fr (nm_yg ++ [(0, 14, 15)]) M M3 := nm_Fr_trans F (nm_Fr_appl F3)
              refine h_37_140 (nm_Lay_fr hL F03 (by decide +kernel)) ⟨by omega, night M3 F03 (by rw [nm_gt_frn F3 hL2 (by decide) (by decide +kernel)]; exact g14) ?_⟩
              unfold nm_yW; rw [if_pos (by omega), if_neg (by omega)]; exact W3
    have := key n.toNat s (nx_W X) 0 (am_st M1 0 14 (nx_S X 0)) (9, 0) (by omega) (by omega) (by omega) (by decide) (by omega) F2 nm_st_eq (nm_CW_fr V1 hL1 (by decide) (nm_Fr_st (nm_Fg_refl [(0, 14, 15)] M1) (by decide)) (by decide +kernel)) oW rfl
    rw [show n - ((n.toNat : Nat) : Int) = 0 by omega] at this
    exact this
  · rw [if_pos (by omega)] at hQ
    exact ⟨by omega, nmp_ref (k := 37) (by decide) hC0 (fun M' L q => h_37_44 L q) hQ⟩
