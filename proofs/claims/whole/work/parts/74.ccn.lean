/-! LINES, the class: completes, comeNearer -/
abbrev nm_msT (X : nm_X) (H : Int) (T : List Int) : List Int := nm_ms (nm_mkx X) H (nm_at T) T.length
abbrev nm_ck (X : nm_X) : Int → Int := fun q => nx_S X (77 + q)
def nm_MT21 (M : am_M) (T : List Int) : Prop := ∀ q, 0 ≤ q → q < (T.length : Int) → am_gt M 21 q = nm_at T q
theorem nm_MT21_st {M : am_M} {m : Int} {T : List Int} (h : nm_MT21 M T) : nm_MT21 (am_st M 21 (T.length : Int) m) (m :: T) := by
  intro q a b
  rw [List.length_cons] at b
  rw [nm_gt_st]
  show _ = if q = (T.length : Int) then m else nm_at T q
  by_cases e : q = (T.length : Int)
  · rw [if_pos ⟨rfl, e⟩, if_pos e]
  · rw [if_neg (fun c => e c.2), if_neg e]; exact h q a (by omega)
theorem nm_MT21_tl {M : am_M} {m : Int} {T : List Int} (h : nm_MT21 M (m :: T)) : nm_MT21 M T := by
  intro q a b
  rw [h q a (by rw [List.length_cons]; omega)]
  exact if_neg (by omega)
theorem nm_MT21_fr {f : nm_Rg} {M M' : am_M} {T : List Int} (hL : nm_Lay M) (h : nm_MT21 M T) (F : nm_Fr f M M') (h1 : nm_no f 21 = true) : nm_MT21 M' T := fun q a b => (nm_gt_frn F hL (by decide) h1).trans (h q a b)
theorem nm_inN_cons {N m : Int} {T : List Int} (h : nm_inN N T) (m0 : 0 ≤ m) (m1 : m < N) : nm_inN N (m :: T) := fun a ha => by
  rcases List.mem_cons.1 ha with e | e
  · subst e; exact ⟨m0, m1⟩
  · exact h a e
theorem nm_wf_app {X : nm_X} {H : Int} {l1 l2 : List (List Int)} : nm_wf X H (l1 ++ l2) = (nm_wf X H l1).or (nm_wf X H l2) := by unfold nm_wf; exact List.find?_append
abbrev nm_cpC : nm_Rg := [(20, 11, 12), (21, 0, 6), (26, 0, 8)]
theorem nmc_85 {n : Nat} {H : Int} {X : nm_X} {M : am_M} (hok : nm_ok X) (hC : nm_C M X) (n6 : n ≤ 6) (H0 : 0 ≤ H) (H8 : H ≤ 8) (ht : nm_TC M (nx_S X 0) (n : Int) H (nm_cn X) (nm_mkx X)) : ∀ (r : Nat) (T : List Int) (dd : Nat) (M1 : am_M) (Q : List am_V → am_M → Prop), 4 + r ≤ dd → T.length + r = n → nm_inN (nx_S X 0) T → nm_Fr nm_cpC M M1 → nm_K26 M1 (nm_ck X) (nm_msT X H T) → nm_MT21 M1 T →
  (∀ T' M2, nm_Fr nm_cpC M M2 → nm_wf X H (nm_gen (nm_cn X) (nx_S X 0) r T) = some T' → nm_MT21 M2 T' → Q [(0, 1)] M2) →
  (nm_wf X H (nm_gen (nm_cn X) (nx_S X 0) r T) = none → ∀ M2, nm_Fr nm_cpC M M2 → nm_K26 M2 (nm_ck X) (nm_msT X H T) → nm_MT21 M2 T → Q [(0, 0)] M2) → am_CL dd 85 [(2, 20), (0, (T.length : Int)), (0, (n : Int)), (0, H), (0, nm_msk T)] M1 Q := by
  have o0 := hC.1.2.2.1.1
  have oc := hC.1.2.2.1.2.2.2.2.2.2.2.2.2.2.2.1
  have lay : ∀ {M1}, nm_Fr nm_cpC M M1 → nm_C M1 X := fun F => nm_C_fr hC F (by decide +kernel)
  have tb : ∀ {M1}, nm_Fr nm_cpC M M1 → nm_TC M1 (nx_S X 0) (n : Int) H (nm_cn X) (nm_mkx X) := fun F m p a b c e => by
    refine ⟨(nm_gt_frn F (nm_C_L hC) (by decide) (by decide)).trans (ht m p a b c e).1, fun x h y z => ?_⟩
    exact (nm_gt_frn F (nm_C_L hC) (by decide) (by decide)).trans ((ht m p a b c e).2 x h y z)
  intro r
  induction r with
  | zero =>
    intro T dd M1 Q hd hl hi F1 k1 t1 F Z
    refine h_85_0 (nm_C_L (lay F1)) ?_
    rw [k1.2]
    refine ⟨fun _ => ⟨fun c => Z ?_ M1 F1 k1 t1, fun c => F T M1 F1 ?_ t1⟩, fun h => absurd (by omega) h⟩
    · exact nm_wf_no (L := []) c
    · exact nm_wf_yes (L := []) (Decidable.of_not_not c)
  | succ r ihr =>
    intro T dd M1 Q hd hl hi F1 k1 t1 F Z
    refine h_85_0 (nm_C_L (lay F1)) ⟨fun h => absurd h (by omega), fun _ => ⟨fun _ => ?_, fun h => absurd (by omega) h⟩⟩
    have eg : nm_gen (nm_cn X) (nx_S X 0) (r + 1) T = nm_chl (nm_okm (nm_cn X) T) (fun m => nm_gen (nm_cn X) (nx_S X 0) r (m :: T)) (nx_S X 0) (nx_S X 0).toNat := rfl
    rw [eg] at F Z
    have loop : ∀ k : Nat, (k : Int) ≤ nx_S X 0 → ∀ M2, nm_Fr nm_cpC M M2 → nm_K26 M2 (nm_ck X) (nm_msT X H T) → nm_MT21 M2 T →
        (∀ T' M3, nm_Fr nm_cpC M M3 → nm_wf X H (nm_chl (nm_okm (nm_cn X) T) (fun m => nm_gen (nm_cn X) (nx_S X 0) r (m :: T)) (nx_S X 0) k) = some T' → nm_MT21 M3 T' → Q [(0, 1)] M3) →
        (nm_wf X H (nm_chl (nm_okm (nm_cn X) T) (fun m => nm_gen (nm_cn X) (nx_S X 0) r (m :: T)) (nx_S X 0) k) = none → ∀ M3, nm_Fr nm_cpC M M3 → nm_K26 M3 (nm_ck X) (nm_msT X H T) → nm_MT21 M3 T → Q [(0, 0)] M3) →
        am_WP dd am_c85 27 [(2, 20), (0, (T.length : Int)), (0, (n : Int)), (0, H), (0, nm_msk T), (0, nx_S X 0 - (k : Int))] [] M2 Q := by
      intro k
      induction k with
      | zero =>
        intro hk M2 F2 k2 t2 F' Z'
        refine h_85_27 (nm_C_L (lay F2)) ?_
        rw [nm_s0 (lay F2).1.2.1]
        exact ⟨fun _ => Z' rfl M2 F2 k2 t2, fun h => absurd (by omega) h⟩
      | succ k ih =>
        intro hk M2 F2 k2 t2 F' Z'
        have C2 := lay F2
        have hL2 := nm_C_L C2
        have e : nm_chl (nm_okm (nm_cn X) T) (fun m => nm_gen (nm_cn X) (nx_S X 0) r (m :: T)) (nx_S X 0) (k + 1) = (if nm_okm (nm_cn X) T (nx_S X 0 - 1 - (k : Int)) then nm_gen (nm_cn X) (nx_S X 0) r ((nx_S X 0 - 1 - (k : Int)) :: T) else []) ++ nm_chl (nm_okm (nm_cn X) T) (fun m => nm_gen (nm_cn X) (nx_S X 0) r (m :: T)) (nx_S X 0) k := rfl
        rw [e, nm_wf_app] at F' Z'
        rw [show nx_S X 0 - ((k + 1 : Nat) : Int) = nx_S X 0 - 1 - (k : Int) by omega]
        have again : ∀ M3, nm_Fr nm_cpC M M3 → nm_K26 M3 (nm_ck X) (nm_msT X H T) → nm_MT21 M3 T →
            (∀ T' M4, nm_Fr nm_cpC M M4 → nm_wf X H (nm_chl (nm_okm (nm_cn X) T) (fun m => nm_gen (nm_cn X) (nx_S X 0) r (m :: T)) (nx_S X 0) k) = some T' → nm_MT21 M4 T' → Q [(0, 1)] M4) →
            (nm_wf X H (nm_chl (nm_okm (nm_cn X) T) (fun m => nm_gen (nm_cn X) (nx_S X 0) r (m :: T)) (nx_S X 0) k) = none → ∀ M4, nm_Fr nm_cpC M M4 → nm_K26 M4 (nm_ck X) (nm_msT X H T) → nm_MT21 M4 T → Q [(0, 0)] M4) →
            am_WP dd am_c85 96 [(2, 20), (0, (T.length : Int)), (0, (n : Int)), (0, H), (0, nm_msk T), (0, nx_S X 0 - 1 - (k : Int))] [] M3 Q := by
          intro M3 F3 k3 t3 F'' Z''
          refine h_85_96 (nm_C_L (lay F3)) ?_
          rw [am_w_id (by omega) (by omega), show nx_S X 0 - 1 - (k : Int) + 1 = nx_S X 0 - (k : Int) by omega]
          exact ih (by omega) M3 F3 k3 t3 F'' Z''
        refine h_85_27 hL2 ?_
        rw [nm_s0 C2.1.2.1]
        refine ⟨fun h => absurd h (by omega), fun _ => ⟨by omega, nmc_84 (n := (n : Int)) (H := H) (mk := nm_mkx X) (cn := nm_cn X) (N := nx_S X 0) hL2 o0.2 (fun m p a b c e => ((tb F2) m p a b c e).1) hi (by omega) (by omega) (by omega) (by omega) (fun ho => ?_) (fun ho => ?_)⟩⟩
        · rw [if_pos ho] at F' Z'
          have hcn : nm_cn X (nx_S X 0 - 1 - (k : Int)) (T.length : Int) = true := (nm_okm_iff.1 ho).1
          generalize hm : nx_S X 0 - 1 - (k : Int) = m at ho hcn F' Z' again ⊢
          have m0 : 0 ≤ m := by omega
          have m1 : m < nx_S X 0 := by omega
          refine h_85_48 hL2 ⟨fun c => absurd c (by decide), fun _ => ⟨by omega, by omega, by omega, ?_⟩⟩
          have F3 : nm_Fr nm_cpC M (am_st M2 21 (T.length : Int) m) := nm_Fr_st F2 (nm_in_c (a := 21) (lo := 0) (hi := 6) (by decide) (by omega) (by omega))
          have t3 : nm_MT21 (am_st M2 21 (T.length : Int) m) (m :: T) := nm_MT21_st t2
          have k3 : nm_K26 (am_st M2 21 (T.length : Int) m) (nm_ck X) (nm_msT X H T) := ⟨fun q a b => (nm_st_ne (by decide)).trans (k2.1 q a b), (nm_st_ne (by decide)).trans k2.2⟩
          generalize am_st M2 21 (T.length : Int) m = M3 at F3 t3 k3 ⊢
          have hlen := nm_ms_len (mk := nm_mkx X) (a := nm_at T) H8 T.length
          have hlen' : (nm_msT X H T).length ≤ 8 * T.length := hlen
          refine nmc_87 (f := fun h => nm_mkx X m (T.length : Int) h) (by omega) (nm_C_L (lay F3)) m0 (by omega) (by omega) (by omega) H0 H8 (((tb F3) m (T.length : Int) m0 m1 (by omega) (by omega)).2 hcn) (fun h => nm_mkx_in) k3 oc (by omega) (fun M4 F4 k4 => ?_)
          have F04 : nm_Fr nm_cpC M M4 := nm_Fr_trans F3 (nm_Fr_sub F4 (by decide))
          have t4 := nm_MT21_fr (nm_C_L (lay F3)) t3 F4 (by decide)
          rw [← nm_ms_cons] at k4
          refine h_85_67 (nm_C_L (lay F04)) ⟨by omega, ?_⟩
          rw [show am_w ((T.length : Int) + 1) = (((m :: T).length : Nat) : Int) by rw [am_w_id (by omega) (by omega), List.length_cons]; omega, show am_or (nm_msk T) (am_shl 1 m) = nm_msk (m :: T) from rfl]
          refine ihr (m :: T) (dd - 1) M4 _ (by omega) (by rw [List.length_cons]; omega) (nm_inN_cons hi m0 m1) F04 k4 t4 (fun T' M5 F5 w5 t5 => ?_) (fun w5 M5 F5 k5 t5 => ?_)
          · exact h_85_83 (nm_C_L (lay F5)) ⟨fun c => absurd c (by decide), fun _ => F' T' M5 F5 (by rw [w5]; rfl) t5⟩
          · rw [w5, Option.none_or] at F' Z'
            rw [show nm_msT X H (m :: T) = _ from nm_ms_cons] at k5
            refine h_85_83 (nm_C_L (lay F5)) ⟨fun _ => ⟨by omega, nmc_88 (f := fun h => nm_mkx X m (T.length : Int) h) (by omega) (nm_C_L (lay F5)) m0 (by omega) (by omega) (by omega) H0 H8 (((tb F5) m (T.length : Int) m0 m1 (by omega) (by omega)).2 hcn) (fun h => nm_mkx_in) k5 oc (by omega) (fun M6 F6 k6 => ?_)⟩, fun c => absurd rfl c⟩
            exact again M6 (nm_Fr_trans F5 (nm_Fr_sub F6 (by decide))) k6 (nm_MT21_fr (nm_C_L (lay F5)) (nm_MT21_tl t5) F6 (by decide)) F' Z'
        · rw [if_neg (by rw [ho]; decide)] at F' Z'
          exact h_85_48 hL2 ⟨fun _ => again M2 F2 k2 t2 F' Z', fun c => absurd rfl c⟩
    have := loop (nx_S X 0).toNat (by omega) M1 F1 k1 t1 F Z
    rw [show nx_S X 0 - (((nx_S X 0).toNat : Nat) : Int) = 0 by omega] at this
    exact this
/-- all lines and what begins them, r deep -/
def nm_nod (cn : Int → Int → Bool) (N : Int) : Nat → List Int → List (List Int)
  | 0, T => [T]
  | r + 1, T => T :: nm_chl (nm_okm cn T) (fun m => nm_nod cn N r (m :: T)) N N.toNat
abbrev nm_cnC : nm_Rg := [(20, 11, 13), (26, 0, 8)]
theorem nmc_86 {n : Nat} {H : Int} {X : nm_X} {M : am_M} (hok : nm_ok X) (hC : nm_C M X) (n6 : n ≤ 6) (H0 : 0 ≤ H) (H8 : H ≤ 8) (ht : nm_TC M (nx_S X 0) (n : Int) H (nm_cn X) (nm_mkx X)) : ∀ (r : Nat) (T : List Int) (dd : Nat) (M1 : am_M) (b : Int) (Q : List am_V → am_M → Prop), 4 + r ≤ dd → T.length + r = n → nm_inN (nx_S X 0) T → nm_Fr nm_cnC M M1 → nm_K26 M1 (nm_ck X) (nm_msT X H T) → am_gt M1 20 12 = b →
  (∀ M2, nm_Fr nm_cnC M M2 → nm_K26 M2 (nm_ck X) (nm_msT X H T) → am_gt M2 20 12 = nm_mn (nm_ofl X H) b (nm_nod (nm_cn X) (nx_S X 0) r T) → Q [] M2) → am_CL dd 86 [(2, 20), (0, (T.length : Int)), (0, (n : Int)), (0, H), (0, nm_msk T)] M1 Q := by
  have o0 := hC.1.2.2.1.1
  have oc := hC.1.2.2.1.2.2.2.2.2.2.2.2.2.2.2.1
  have lay : ∀ {M1}, nm_Fr nm_cnC M M1 → nm_C M1 X := fun F => nm_C_fr hC F (by decide +kernel)
  have tb : ∀ {M1}, nm_Fr nm_cnC M M1 → nm_TC M1 (nx_S X 0) (n : Int) H (nm_cn X) (nm_mkx X) := fun F m p a b c e => by
    refine ⟨(nm_gt_frn F (nm_C_L hC) (by decide) (by decide)).trans (ht m p a b c e).1, fun x h y z => ?_⟩
    exact (nm_gt_frn F (nm_C_L hC) (by decide) (by decide)).trans ((ht m p a b c e).2 x h y z)
  have st12 : ∀ {M1} {T : List Int} {b : Int}, nm_Fr nm_cnC M M1 → nm_K26 M1 (nm_ck X) (nm_msT X H T) → am_gt M1 20 12 = b → nm_Fr nm_cnC M (am_st M1 20 12 (min (am_gt M1 20 12) (am_gt M1 20 11))) ∧ nm_K26 (am_st M1 20 12 (min (am_gt M1 20 12) (am_gt M1 20 11))) (nm_ck X) (nm_msT X H T) ∧ am_gt (am_st M1 20 12 (min (am_gt M1 20 12) (am_gt M1 20 11))) 20 12 = (if b ≤ nm_ofl X H T then b else nm_ofl X H T) := by
    intro M1 T b F1 k1 b1
    refine ⟨nm_Fr_st F1 (by decide), ⟨fun q a b => (nm_st_ne (by decide)).trans (k1.1 q a b), (nm_st_nj (by decide)).trans k1.2⟩, ?_⟩
    rw [nm_st_eq, b1, k1.2, Int.min_def]; rfl
  intro r
  induction r with
  | zero =>
    intro T dd M1 b Q hd hl hi F1 k1 b1 F
    obtain ⟨f1, f2, f3⟩ := st12 F1 k1 b1
    exact h_86_0 (nm_C_L (lay F1)) ⟨by omega, fun _ => F _ f1 f2 f3, fun h => absurd (by omega) h⟩
  | succ r ihr =>
    intro T dd M1 b Q hd hl hi F1 k1 b1 F
    obtain ⟨f1, f2, f3⟩ := st12 F1 k1 b1
    refine h_86_0 (nm_C_L (lay F1)) ⟨by omega, fun h => absurd h (by omega), fun _ => ⟨fun _ => ?_, fun h => absurd (by omega) h⟩⟩
    have eg : nm_mn (nm_ofl X H) b (nm_nod (nm_cn X) (nx_S X 0) (r + 1) T) = nm_mn (nm_ofl X H) (if b ≤ nm_ofl X H T then b else nm_ofl X H T) (nm_chl (nm_okm (nm_cn X) T) (fun m => nm_nod (nm_cn X) (nx_S X 0) r (m :: T)) (nx_S X 0) (nx_S X 0).toNat) := rfl
    rw [eg] at F
    generalize am_st M1 20 12 (min (am_gt M1 20 12) (am_gt M1 20 11)) = M1' at f1 f2 f3 ⊢
    have loop : ∀ k : Nat, (k : Int) ≤ nx_S X 0 → ∀ M2 b2, nm_Fr nm_cnC M M2 → nm_K26 M2 (nm_ck X) (nm_msT X H T) → am_gt M2 20 12 = b2 →
        (∀ M3, nm_Fr nm_cnC M M3 → nm_K26 M3 (nm_ck X) (nm_msT X H T) → am_gt M3 20 12 = nm_mn (nm_ofl X H) b2 (nm_chl (nm_okm (nm_cn X) T) (fun m => nm_nod (nm_cn X) (nx_S X 0) r (m :: T)) (nx_S X 0) k) → Q [] M3) →
        am_WP dd am_c86 30 [(2, 20), (0, (T.length : Int)), (0, (n : Int)), (0, H), (0, nm_msk T), (0, nx_S X 0 - (k : Int))] [] M2 Q := by
      intro k
      induction k with
      | zero =>
        intro hk M2 b2 F2 k2 e2 F'
        refine h_86_30 (nm_C_L (lay F2)) ?_
        rw [nm_s0 (lay F2).1.2.1]
        exact ⟨fun _ => F' M2 F2 k2 e2, fun h => absurd (by omega) h⟩
      | succ k ih =>
        intro hk M2 b2 F2 k2 e2 F'
        have C2 := lay F2
        have hL2 := nm_C_L C2
        have e : nm_chl (nm_okm (nm_cn X) T) (fun m => nm_nod (nm_cn X) (nx_S X 0) r (m :: T)) (nx_S X 0) (k + 1) = (if nm_okm (nm_cn X) T (nx_S X 0 - 1 - (k : Int)) then nm_nod (nm_cn X) (nx_S X 0) r ((nx_S X 0 - 1 - (k : Int)) :: T) else []) ++ nm_chl (nm_okm (nm_cn X) T) (fun m => nm_nod (nm_cn X) (nx_S X 0) r (m :: T)) (nx_S X 0) k := rfl
        rw [e, nm_mn_app] at F'
        rw [show nx_S X 0 - ((k + 1 : Nat) : Int) = nx_S X 0 - 1 - (k : Int) by omega]
        have again : ∀ M3 b3, nm_Fr nm_cnC M M3 → nm_K26 M3 (nm_ck X) (nm_msT X H T) → am_gt M3 20 12 = b3 →
            (∀ M4, nm_Fr nm_cnC M M4 → nm_K26 M4 (nm_ck X) (nm_msT X H T) → am_gt M4 20 12 = nm_mn (nm_ofl X H) b3 (nm_chl (nm_okm (nm_cn X) T) (fun m => nm_nod (nm_cn X) (nx_S X 0) r (m :: T)) (nx_S X 0) k) → Q [] M4) →
            am_WP dd am_c86 86 [(2, 20), (0, (T.length : Int)), (0, (n : Int)), (0, H), (0, nm_msk T), (0, nx_S X 0 - 1 - (k : Int))] [] M3 Q := by
          intro M3 b3 F3 k3 e3 F''
          refine h_86_86 (nm_C_L (lay F3)) ?_
          rw [am_w_id (by omega) (by omega), show nx_S X 0 - 1 - (k : Int) + 1 = nx_S X 0 - (k : Int) by omega]
          exact ih (by omega) M3 b3 F3 k3 e3 F''
        refine h_86_30 hL2 ?_
        rw [nm_s0 C2.1.2.1]
        refine ⟨fun h => absurd h (by omega), fun _ => ⟨by omega, nmc_84 (n := (n : Int)) (H := H) (mk := nm_mkx X) (cn := nm_cn X) (N := nx_S X 0) hL2 o0.2 (fun m p a b c e => ((tb F2) m p a b c e).1) hi (by omega) (by omega) (by omega) (by omega) (fun ho => ?_) (fun ho => ?_)⟩⟩
        · rw [if_pos ho] at F'
          have hcn : nm_cn X (nx_S X 0 - 1 - (k : Int)) (T.length : Int) = true := (nm_okm_iff.1 ho).1
          generalize hm : nx_S X 0 - 1 - (k : Int) = m at ho hcn F' again ⊢
          have m0 : 0 ≤ m := by omega
          have m1 : m < nx_S X 0 := by omega
          have hlen := nm_ms_len (mk := nm_mkx X) (a := nm_at T) H8 T.length
          have hlen' : (nm_msT X H T).length ≤ 8 * T.length := hlen
          refine h_86_51 hL2 ⟨fun c => absurd c (by decide), fun _ => ⟨by omega, nmc_87 (f := fun h => nm_mkx X m (T.length : Int) h) (by omega) hL2 m0 (by omega) (by omega) (by omega) H0 H8 (((tb F2) m (T.length : Int) m0 m1 (by omega) (by omega)).2 hcn) (fun h => nm_mkx_in) k2 oc (by omega) (fun M4 F4 k4 => ?_)⟩⟩
          have F04 : nm_Fr nm_cnC M M4 := nm_Fr_trans F2 (nm_Fr_sub F4 (by decide))
          have e4 : am_gt M4 20 12 = b2 := (nm_gt_frd (g := [(20, 12, 13)]) F4 hL2 (by decide) (by decide) (by decide)).trans e2
          rw [← nm_ms_cons] at k4
          refine h_86_62 (nm_C_L (lay F04)) ⟨by omega, ?_⟩
          rw [show am_w ((T.length : Int) + 1) = (((m :: T).length : Nat) : Int) by rw [am_w_id (by omega) (by omega), List.length_cons]; omega, show am_or (nm_msk T) (am_shl 1 m) = nm_msk (m :: T) from rfl]
          refine ihr (m :: T) (dd - 1) M4 b2 _ (by omega) (by rw [List.length_cons]; omega) (nm_inN_cons hi m0 m1) F04 k4 e4 (fun M5 F5 k5 e5 => ?_)
          rw [show nm_msT X H (m :: T) = _ from nm_ms_cons] at k5
          refine h_86_78 (nm_C_L (lay F5)) ⟨by omega, nmc_88 (f := fun h => nm_mkx X m (T.length : Int) h) (by omega) (nm_C_L (lay F5)) m0 (by omega) (by omega) (by omega) H0 H8 (((tb F5) m (T.length : Int) m0 m1 (by omega) (by omega)).2 hcn) (fun h => nm_mkx_in) k5 oc (by omega) (fun M6 F6 k6 => ?_)⟩
          exact again M6 _ (nm_Fr_trans F5 (nm_Fr_sub F6 (by decide))) k6 ((nm_gt_frd (g := [(20, 12, 13)]) F6 (nm_C_L (lay F5)) (by decide) (by decide) (by decide)).trans e5) F'
        · rw [if_neg (by rw [ho]; decide)] at F'
          exact h_86_51 hL2 ⟨fun _ => again M2 b2 F2 k2 e2 F', fun c => absurd rfl c⟩
    have := loop (nx_S X 0).toNat (by omega) M1' _ f1 f2 f3 F
    rw [show nx_S X 0 - (((nx_S X 0).toNat : Nat) : Int) = 0 by omega] at this
    exact this
