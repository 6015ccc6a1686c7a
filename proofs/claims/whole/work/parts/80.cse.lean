/-! LINES, the class: seekLines -/
theorem nm_vl_at {cn : Int → Int → Bool} {N : Int} : ∀ {T : List Int}, nm_vl cn N T → (nm_inN N T) ∧ ∀ j : Nat, j < T.length → cn (nm_at T (j : Int)) (j : Int) = true
  | [], _ => ⟨fun m h => (by cases h), fun j h => absurd h (Nat.not_lt_zero _)⟩
  | m :: T, h => by
    obtain ⟨h1, h2⟩ := nm_vl_at h.2.2
    refine ⟨nm_inN_cons h1 h.1.1 h.1.2, fun j hj => ?_⟩
    rw [List.length_cons] at hj
    by_cases e : j = T.length
    · subst e
      rw [show nm_at (m :: T) ((T.length : Nat) : Int) = m from if_pos rfl]
      exact (nm_okm_iff.1 h.2.1).1
    · rw [show nm_at (m :: T) (j : Int) = nm_at T (j : Int) from if_neg (by omega)]
      exact h2 j (by omega)
def nm_MT25 (M : am_M) (T : List Int) : Prop := ∀ q, 0 ≤ q → q < (T.length : Int) → am_gt M 25 q = nm_at T q
theorem nm_MT25_st {M : am_M} {m : Int} {T : List Int} (h : nm_MT25 M T) : nm_MT25 (am_st M 25 (T.length : Int) m) (m :: T) := by
  intro q a b
  rw [List.length_cons] at b
  rw [nm_gt_st]
  show _ = if q = (T.length : Int) then m else nm_at T q
  by_cases e : q = (T.length : Int)
  · rw [if_pos ⟨rfl, e⟩, if_pos e]
  · rw [if_neg (fun c => e c.2), if_neg e]; exact h q a (by omega)
theorem nm_MT25_tl {M : am_M} {m : Int} {T : List Int} (h : nm_MT25 M (m :: T)) : nm_MT25 M T := by
  intro q a b
  rw [h q a (by rw [List.length_cons]; omega)]
  exact if_neg (by omega)
abbrev nm_agp (X : nm_X) : List Int → Bool := fun T => decide (nm_ag X T = nm_ndx X)
abbrev nm_skC : nm_Rg := nm_tkC ++ [(25, 0, 6)]
theorem nmc_92 {n : Nat} {i z H : Int} {X : nm_X} {M : am_M} (hC : nm_C M X) (n6 : n ≤ 6) (t22 : ∀ m p, 0 ≤ m → m < nx_S X 0 → 0 ≤ p → p < (n : Int) → nm_cn X m p = true → ∀ h, p < h → h ≤ H → am_gt M 22 (48 * m + 8 * p + h - 1) = nm_mkx X m p h) (hz : z ≠ 0 → H = 8) (tw : nm_TW M X (n : Int)) (h13 : am_gt M 20 13 = nm_ndx X) (h14 : am_gt M 20 14 = i) (h16 : am_gt M 20 16 = z) : ∀ (r : Nat) (T : List Int) (dd : Nat) (M1 : am_M) (s : nm_sg) (Q : List am_V → am_M → Prop), 4 + r ≤ dd → T.length + r = n → nm_vl (nm_cn2 X) (nx_S X 0) T → nm_Fr nm_skC M M1 → nm_MT25 M1 T → nm_MQ M1 z s → s.1 + ((nm_gen (nm_cn2 X) (nx_S X 0) r T).length : Int) ≤ 50000 → ¬ (i ≠ -1 ∧ i < s.1) → (∀ M2, nm_Fr nm_skC M M2 → nm_MT25 M2 T → nm_MQ M2 z (nm_fd2 X i z ((nm_gen (nm_cn2 X) (nx_S X 0) r T).filter (nm_agp X)) s) → Q [] M2) → am_CL dd 92 [(2, 20), (0, (T.length : Int)), (0, (n : Int)), (0, nm_msk T), (0, nm_ag X T)] M1 Q := by
  have o0 := hC.1.2.2.1.1
  have hL0 := nm_C_L hC
  have lay : ∀ {M1}, nm_Fr nm_skC M M1 → nm_C M1 X := fun F => nm_C_fr hC F (by decide +kernel)
  have e13 : ∀ {M1}, nm_Fr nm_skC M M1 → am_gt M1 20 13 = nm_ndx X := fun F => (nm_gt_frd (g := [(20, 13, 14)]) F hL0 (by decide) (by decide) (by decide)).trans h13
  have e14 : ∀ {M1}, nm_Fr nm_skC M M1 → am_gt M1 20 14 = i := fun F => (nm_gt_frd (g := [(20, 14, 15)]) F hL0 (by decide) (by decide) (by decide)).trans h14
  have e16 : ∀ {M1}, nm_Fr nm_skC M M1 → am_gt M1 20 16 = z := fun F => (nm_gt_frd (g := [(20, 16, 17)]) F hL0 (by decide) (by decide) (by decide)).trans h16
  intro r
  induction r with
  | zero =>
    intro T dd M1 s Q hd hl hv F1 t1 q1 sb ns F
    have hL1 := nm_C_L (lay F1)
    have va := nm_vl_at hv
    have sb' : s.1 ≤ 49999 := by
      have : (nm_gen (nm_cn2 X) (nx_S X 0) 0 T).length = 1 := rfl
      rw [this] at sb; omega
    have eg : nm_gen (nm_cn2 X) (nx_S X 0) 0 T = [T] := rfl
    rw [eg] at F
    refine h_92_0 hL1 ?_
    rw [e13 F1]
    refine ⟨fun _ => ⟨fun c => ?_, fun c => ⟨by omega, ?_⟩⟩, fun h => absurd (by omega) h⟩
    · rw [List.filter_cons_of_neg (by simpa using c)] at F
      exact h_92_25 hL1 (F M1 F1 t1 q1)
    · have ec : nm_agp X T = true := decide_eq_true (Decidable.of_not_not c)
      rw [List.filter_cons_of_pos ec] at F
      have ef : nm_fd2 X i z (T :: List.filter (nm_agp X) []) s = nm_sl X i z T s := if_neg ns
      rw [ef] at F
      refine nmc_93 (i := i) (X := X) (T := T) (s := s) (by omega) hL1 (by omega) n6 (fun m hm => ⟨(va.1 m hm).1, by have := (va.1 m hm).2; omega⟩) (fun q a b => t1 q a (by omega)) (fun nz j hj h x y => ?_) (e14 F1) (e16 F1) q1 (by omega) (fun M2 F2 q2 => ?_)
      · have hm := va.1 _ (nm_at_in (T := T) (q := (j : Int)) (by omega) (by omega))
        have hc := va.2 j (by omega)
        unfold nm_cn2 at hc
        rw [Bool.and_eq_true] at hc
        exact (nm_gt_frn F1 hL0 (by decide) (by decide)).trans (t22 _ _ hm.1 hm.2 (by omega) (by omega) hc.1 h x (by rw [hz nz]; exact y))
      · have F02 : nm_Fr nm_skC M M2 := nm_Fr_trans F1 (nm_Fr_appl F2)
        exact h_92_25 (nm_C_L (lay F02)) (F M2 F02 (fun q a b => (nm_gt_frn F2 hL1 (by decide) (by decide)).trans (t1 q a b)) q2)
  | succ r ihr =>
    intro T dd M1 s Q hd hl hv F1 t1 q1 sb ns F
    have va := nm_vl_at hv
    have eg : nm_gen (nm_cn2 X) (nx_S X 0) (r + 1) T = nm_chl (nm_okm (nm_cn2 X) T) (fun m => nm_gen (nm_cn2 X) (nx_S X 0) r (m :: T)) (nx_S X 0) (nx_S X 0).toNat := rfl
    rw [eg] at F sb
    refine h_92_0 (nm_C_L (lay F1)) ⟨fun h => absurd h (by omega), fun _ => ⟨fun _ => ?_, fun h => absurd (by omega) h⟩⟩
    have loop : ∀ k : Nat, (k : Int) ≤ nx_S X 0 → ∀ M2 s2 l6, nm_Fr nm_skC M M2 → nm_MT25 M2 T → nm_MQ M2 z s2 → s2.1 + ((nm_chl (nm_okm (nm_cn2 X) T) (fun m => nm_gen (nm_cn2 X) (nx_S X 0) r (m :: T)) (nx_S X 0) k).length : Int) ≤ 50000 → (∀ M3, nm_Fr nm_skC M M3 → nm_MT25 M3 T → nm_MQ M3 z (nm_fd2 X i z ((nm_chl (nm_okm (nm_cn2 X) T) (fun m => nm_gen (nm_cn2 X) (nx_S X 0) r (m :: T)) (nx_S X 0) k).filter (nm_agp X)) s2) → Q [] M3) → am_WP dd am_c92 29 [(2, 20), (0, (T.length : Int)), (0, (n : Int)), (0, nm_msk T), (0, nm_ag X T), (0, nx_S X 0 - (k : Int)), l6] [] M2 Q := by
      intro k
      induction k with
      | zero =>
        intro hk M2 s2 l6 F2 t2 q2 b2 F'
        refine h_92_29 (nm_C_L (lay F2)) ?_
        rw [nm_s0 (lay F2).1.2.1]
        exact ⟨fun _ => F' M2 F2 t2 q2, fun h => absurd (by omega) h⟩
      | succ k ih =>
        intro hk M2 s2 l6 F2 t2 q2 b2 F'
        have C2 := lay F2
        have hL2 := nm_C_L C2
        have e : nm_chl (nm_okm (nm_cn2 X) T) (fun m => nm_gen (nm_cn2 X) (nx_S X 0) r (m :: T)) (nx_S X 0) (k + 1) = (if nm_okm (nm_cn2 X) T (nx_S X 0 - 1 - (k : Int)) then nm_gen (nm_cn2 X) (nx_S X 0) r ((nx_S X 0 - 1 - (k : Int)) :: T) else []) ++ nm_chl (nm_okm (nm_cn2 X) T) (fun m => nm_gen (nm_cn2 X) (nx_S X 0) r (m :: T)) (nx_S X 0) k := rfl
        rw [e, List.filter_append, nm_fd2_app] at F'
        rw [e, List.length_append] at b2
        rw [show nx_S X 0 - ((k + 1 : Nat) : Int) = nx_S X 0 - 1 - (k : Int) by omega]
        have again : ∀ M3 s3 x6, nm_Fr nm_skC M M3 → nm_MT25 M3 T → nm_MQ M3 z s3 → s3.1 + ((nm_chl (nm_okm (nm_cn2 X) T) (fun m => nm_gen (nm_cn2 X) (nx_S X 0) r (m :: T)) (nx_S X 0) k).length : Int) ≤ 50000 → (∀ M4, nm_Fr nm_skC M M4 → nm_MT25 M4 T → nm_MQ M4 z (nm_fd2 X i z ((nm_chl (nm_okm (nm_cn2 X) T) (fun m => nm_gen (nm_cn2 X) (nx_S X 0) r (m :: T)) (nx_S X 0) k).filter (nm_agp X)) s3) → Q [] M4) → am_WP dd am_c92 120 [(2, 20), (0, (T.length : Int)), (0, (n : Int)), (0, nm_msk T), (0, nm_ag X T), (0, nx_S X 0 - 1 - (k : Int)), (0, x6)] [] M3 Q := by
          intro M3 s3 x6 F3 t3 q3 b3 F''
          refine h_92_120 (nm_C_L (lay F3)) ?_
          rw [am_w_id (by omega) (by omega), show nx_S X 0 - 1 - (k : Int) + 1 = nx_S X 0 - (k : Int) by omega]
          exact ih (by omega) M3 s3 _ F3 t3 q3 b3 F''
        have body : ¬ (i ≠ -1 ∧ i < s2.1) → am_CL (dd - 1) 84 [(2, 20), (0, nx_S X 0 - 1 - (k : Int)), (0, (T.length : Int)), (0, nm_msk T)] M2 (fun r M' => am_WP dd am_c92 80 [(2, 20), (0, (T.length : Int)), (0, (n : Int)), (0, nm_msk T), (0, nm_ag X T), (0, nx_S X 0 - 1 - (k : Int)), (0, 0)] (r ++ []) M' Q) := by
          intro ns2
          refine nmc_84 (n := (n : Int)) (H := H) (mk := nm_mkx X) (cn := nm_cn2 X) (N := nx_S X 0) hL2 o0.2 (fun m p a b c e => (nm_gt_frn F2 hL0 (by decide) (by decide)).trans (tw m p a b c e).1) va.1 (by omega) (by omega) (by omega) (by omega) (fun ho => ?_) (fun ho => ?_)
          · rw [if_pos ho] at F' b2
            have hcn : nm_cn2 X (nx_S X 0 - 1 - (k : Int)) (T.length : Int) = true := (nm_okm_iff.1 ho).1
            generalize hm : nx_S X 0 - 1 - (k : Int) = m at ho hcn F' b2 again ⊢
            have m0 : 0 ≤ m := by omega
            have m1 : m < nx_S X 0 := by omega
            refine h_92_80 hL2 ⟨fun c => absurd c (by decide), fun _ => ?_⟩
            rw [am_w_id (x := m * 6) (by omega) (by omega), am_w_id (x := m * 6 + (T.length : Int)) (by omega) (by omega), show m * 6 + (T.length : Int) = 6 * m + (T.length : Int) by omega, (nm_gt_frn F2 hL0 (by decide) (by decide)).trans ((tw m (T.length : Int) m0 m1 (by omega) (by omega)).2 hcn), show am_w ((T.length : Int) + 1) = (((m :: T).length : Nat) : Int) by rw [am_w_id (by omega) (by omega), List.length_cons]; omega, show am_or (nm_msk T) (am_shl 1 m) = nm_msk (m :: T) from rfl, show am_or (nm_ag X T) (nm_hmx X m (T.length : Int)) = nm_ag X (m :: T) from rfl]
            refine ⟨by omega, by omega, by omega, by omega, by omega, ?_⟩
            have F3 : nm_Fr nm_skC M (am_st M2 25 (T.length : Int) m) := nm_Fr_st F2 (nm_in_c (a := 25) (lo := 0) (hi := 6) (by decide) (by omega) (by omega))
            have t3 : nm_MT25 (am_st M2 25 (T.length : Int) m) (m :: T) := nm_MT25_st t2
            have q3 : nm_MQ (am_st M2 25 (T.length : Int) m) z s2 := nm_MQ_fr hL2 q2 (f := [(25, 0, 6)]) (nm_Fr_st (nm_Fg_refl _ _) (nm_in_c (a := 25) (lo := 0) (hi := 6) (by decide) (by omega) (by omega))) (by decide) (by decide) (by decide) (by decide)
            refine ihr (m :: T) (dd - 1) _ s2 _ (by omega) (by rw [List.length_cons]; omega) ⟨⟨m0, m1⟩, ho, hv⟩ F3 t3 q3 (by omega) ns2 (fun M4 F4 t4 q4 => ?_)
            have hle := nm_fd2_le (X := X) (i := i) (z := z) (L := (nm_gen (nm_cn2 X) (nx_S X 0) r (m :: T)).filter (nm_agp X)) (s := s2)
            have hfl := List.length_filter_le (nm_agp X) (nm_gen (nm_cn2 X) (nx_S X 0) r (m :: T))
            exact again M4 _ 0 F4 (nm_MT25_tl t4) q4 (by omega) F'
          · rw [if_neg (by rw [ho]; decide)] at F' b2
            rw [List.length_nil] at b2
            exact h_92_80 hL2 ⟨fun _ => again M2 s2 0 F2 t2 q2 (by omega) F', fun c => absurd rfl c⟩
        refine h_92_29 hL2 ?_
        rw [nm_s0 C2.1.2.1, e14 F2, q2.1]
        refine ⟨fun h => absurd h (by omega), fun _ => ⟨fun c => ⟨fun x => absurd rfl x, fun _ => ⟨by omega, body (fun z => z.1 c)⟩⟩, fun c => ⟨fun c' => ⟨fun x => absurd rfl x, fun _ => ⟨by omega, body (fun z => by omega)⟩⟩, fun c' => ⟨fun _ => ?_, fun x => absurd (by decide) x⟩⟩⟩⟩
        have st : i ≠ -1 ∧ i < s2.1 := ⟨c, by omega⟩
        rw [nm_fd2_stop st, nm_fd2_stop st] at F'
        refine again M2 s2 1 F2 t2 q2 (by omega) ?_
        rw [nm_fd2_stop st]; exact F'
    have := loop (nx_S X 0).toNat (by omega) M1 s (9, 0) F1 t1 q1 sb F
    rw [show nx_S X 0 - (((nx_S X 0).toNat : Nat) : Int) = 0 by omega] at this
    exact this
/-- the lines that agree with what was heard are the same on both sides -/
theorem nm_chl_flt {ok ok2 : Int → Bool} {g g2 : Int → List (List Int)} {N : Int} {p : List Int → Bool} : ∀ k : Nat, (∀ m, N - (k : Int) ≤ m → m < N → (if ok2 m then g2 m else []).filter p = (if ok m then g m else []).filter p) → (nm_chl ok2 g2 N k).filter p = (nm_chl ok g N k).filter p
  | 0, _ => rfl
  | k + 1, h => by
    show ((if ok2 (N - 1 - (k : Int)) then g2 (N - 1 - (k : Int)) else []) ++ nm_chl ok2 g2 N k).filter p = ((if ok (N - 1 - (k : Int)) then g (N - 1 - (k : Int)) else []) ++ nm_chl ok g N k).filter p
    rw [List.filter_append, List.filter_append, h _ (by omega) (by omega), nm_chl_flt k (fun m a b => h m (by omega) b)]
/-- what holds of an end holds of all that begins it -/
theorem nm_ag_sub {X : nm_X} (hO : nm_okS (nx_S X)) : ∀ {r : Nat} {T T' : List Int}, T' ∈ nm_gen (nm_cn X) (nx_S X 0) r T → ∀ k, nm_bt (nm_ag X T) k = true → nm_bt (nm_ag X T') k = true
  | 0, T, T', h, k, hk => by rw [List.mem_singleton.1 (show T' ∈ [T] from h)]; exact hk
  | r + 1, T, T', h, k, hk => by
    have o1 := hO.2.1
    obtain ⟨m, a, b, c, e⟩ := (nm_chl_mem _).1 (show T' ∈ nm_chl (nm_okm (nm_cn X) T) (fun m => nm_gen (nm_cn X) (nx_S X 0) r (m :: T)) (nx_S X 0) (nx_S X 0).toNat from h)
    refine nm_ag_sub hO e k ?_
    have ha := nm_ag_bt (X := X) hO T
    have hh := nm_hm_bt (X := X) (m := m) (p := (T.length : Int)) (nx_S X 1).toNat (by omega)
    show nm_bt (am_or (nm_ag X T) (nm_hm X m (T.length : Int) (nx_S X 1).toNat)) k = true
    rw [(nm_bt_or ha.1.1 ha.1.2 hh.1.1 hh.1.2).2 k, hk, Bool.true_or]
theorem nm_ag_hm {X : nm_X} (hO : nm_okS (nx_S X)) {m : Int} {T : List Int} {k : Nat} (h : nm_bt (nm_hmx X m (T.length : Int)) k = true) : nm_bt (nm_ag X (m :: T)) k = true := by
  have o1 := hO.2.1
  have ha := nm_ag_bt (X := X) hO T
  have hh := nm_hm_bt (X := X) (m := m) (p := (T.length : Int)) (nx_S X 1).toNat (by omega)
  show nm_bt (am_or (nm_ag X T) (nm_hm X m (T.length : Int) (nx_S X 1).toNat)) k = true
  rw [(nm_bt_or ha.1.1 ha.1.2 hh.1.1 hh.1.2).2 k, show nm_bt (nm_hm X m (T.length : Int) (nx_S X 1).toNat) k = true from h, Bool.or_true]
theorem nm_gen_flt {X : nm_X} (hO : nm_okS (nx_S X)) : ∀ (r : Nat) (T : List Int), (nm_gen (nm_cn2 X) (nx_S X 0) r T).filter (nm_agp X) = (nm_gen (nm_cn X) (nx_S X 0) r T).filter (nm_agp X)
  | 0, _ => rfl
  | r + 1, T => by
    have o1 := hO.2.1
    refine nm_chl_flt _ (fun m _ _ => ?_)
    have hn := nm_nd_bt (X := X) hO (nx_S X 1).toNat (by omega)
    have hh := nm_hm_bt (X := X) (m := m) (p := (T.length : Int)) (nx_S X 1).toNat (by omega)
    have ok2 : nm_okm (nm_cn2 X) T m = (nm_okm (nm_cn X) T m && decide (am_and (nm_hmx X m (T.length : Int)) (am_xor (nm_ndx X) (-1)) = 0)) := by
      unfold nm_okm nm_cn2
      cases nm_cn X m (T.length : Int) <;> cases decide (am_and (nm_hmx X m (T.length : Int)) (am_xor (nm_ndx X) (-1)) = 0) <;> cases decide (m ∉ T) <;> rfl
    rw [ok2]
    by_cases ho : nm_okm (nm_cn X) T m = true
    · rw [ho, Bool.true_and, if_pos rfl]
      by_cases hs : am_and (nm_hmx X m (T.length : Int)) (am_xor (nm_ndx X) (-1)) = 0
      · rw [decide_eq_true hs, if_pos rfl]; exact nm_gen_flt hO r (m :: T)
      · rw [decide_eq_false hs, if_neg (by decide)]
        symm
        refine List.filter_eq_nil_iff.2 (fun T' hT' c => hs ?_)
        have ec : nm_ag X T' = nm_ndx X := of_decide_eq_true c
        refine (nm_bt_an hh.1.1 hh.1.2 hn.1.1 hn.1.2).2 (fun k hk => ?_)
        have := nm_ag_sub hO hT' k (nm_ag_hm hO hk)
        rw [ec] at this
        exact this
    · rw [show nm_okm (nm_cn X) T m = false by cases h : nm_okm (nm_cn X) T m <;> simp_all, Bool.false_and]
      rfl
theorem nm_heard_agp {X : nm_X} (hO : nm_okS (nx_S X)) (T : List Int) : nm_heard X T = nm_agp X T := by
  rw [Bool.eq_iff_iff, nm_heard_iff hO]
  exact (decide_eq_true_iff).symm
