/-! LINES, the class: whole, near -/
theorem nm_tr_le {H : Int} (H8 : H ≤ 8) : ∀ n : Nat, nm_tr H n ≤ 8 * n
  | 0 => Nat.le_refl _
  | n + 1 => by
    have := nm_tr_le H8 n
    show nm_tr H n + (H - (n : Int)).toNat ≤ _
    omega
abbrev nm_w72 : nm_Rg := nm_loC ++ nm_cpC
theorem nm_K26_fr {f : nm_Rg} {M M' : am_M} {c : Int → Int} {l : List Int} (hL : nm_Lay M) (h : nm_K26 M c l) (F : nm_Fr f M M') (h1 : nm_no f 26 = true) (h2 : nm_dj f [(20, 11, 12)] = true) : nm_K26 M' c l :=
  ⟨fun q a b => (nm_gt_frn F hL (by decide) h1).trans (h.1 q a b), (nm_gt_frd F hL (by decide) h2 (by decide)).trans h.2⟩
theorem nmc_72 {d : Nat} {H : Int} {X : nm_X} {M : am_M} {Q : List am_V → am_M → Prop} (hd : 14 ≤ d) (hok : nm_ok X) (hC : nm_C M X) (H0 : 1 ≤ H) (H8 : H ≤ 8) (Z : nm_wf X H (nm_gs (nm_cn X) (nx_S X 0) ((nx_S X 0).toNat + 1) 0) = none → ∀ M', nm_Fr nm_w72 M M' → Q [(0, (-1))] M') (F : ∀ T M', nm_wf X H (nm_gs (nm_cn X) (nx_S X 0) ((nx_S X 0).toNat + 1) 0) = some T → T.length ≤ 6 → nm_Fr nm_w72 M M' → nm_MT21 M' T → Q [(0, (T.length : Int))] M') : am_CL d 72 [(2, 20), (0, H)] M Q := by
  have o0 := hC.1.2.2.1.1
  refine h_72_0 (nm_C_L hC) ?_
  rw [nm_s0 hC.1.2.1]
  refine ⟨by omega, by omega, nmc_83 hC (fun M1 F1 k1 => ?_)⟩
  have F01 : nm_Fr nm_w72 M M1 := nm_Fr_sub F1 (by decide +kernel)
  have C1 := nm_C_fr hC F1 (by decide +kernel)
  refine h_72_16 (nm_C_L C1) ?_
  have loop : ∀ n : Nat, n ≤ (min (nx_S X 0) H).toNat + 1 → (∀ n' : Nat, n' < n → (nm_tr H n' : Int) ≠ nm_sm (nm_ck X) 8) → am_WP d am_c72 23 [(2, 20), (0, H), (0, min (nx_S X 0) H), (0, nm_sm (nm_ck X) 8), (0, (nm_tr H n : Int)), (0, (n : Int))] [] M1 Q := by
    refine nm_dn ?_
    intro n hn ih hno
    refine h_72_23 (nm_C_L C1) ⟨fun h => Z ?_ M1 F01, fun h => ⟨fun h' => ?_, fun h' => ⟨by omega, ?_⟩⟩⟩
    · refine nm_wh_no (by omega) (fun T v l1 l2 c => ?_) o0.1
      exact hno T.length (by omega) (nm_ofl_tr c)
    · have := nm_tr_le H8 n
      have nx := ih (by omega) (fun n' hn' => by
        by_cases e : n' = n
        · subst e; exact h'
        · exact hno n' (by omega))
      rw [show ((nm_tr H (n + 1) : Nat) : Int) = (nm_tr H n : Int) + (H - (n : Int)) by show ((nm_tr H n + (H - (n : Int)).toNat : Nat) : Int) = _; omega] at nx
      rw [am_w_id (x := H - (n : Int)) (by omega) (by omega), am_w_id (x := (nm_tr H n : Int) + (H - (n : Int))) (by omega) (by omega), nm_wk (by omega)]
      exact nx
    · have ht : (nm_tr H n : Int) = nm_sm (nm_ck X) 8 := Decidable.of_not_not h'
      have ew := nm_wh_eq (X := X) (H := H) (n := n) (by omega) o0.1 (by omega) (by omega) ht
      rw [ew] at Z F
      refine nmc_81 (by omega) C1 hok (by omega) (by omega) H8 (fun M2 F2 t2 => ?_)
      have C2 := nm_C_fr C1 F2 (by decide +kernel)
      have F02 : nm_Fr nm_w72 M M2 := nm_Fr_trans F01 (nm_Fr_appl F2)
      refine h_72_42 (nm_C_L C2) ⟨by omega, ?_⟩
      refine nmc_85 (M := M2) hok C2 (by omega) (by omega) H8 t2 n [] (d - 1) M2 _ (by omega) (by rw [List.length_nil]; omega) (fun a ha => by cases ha) (nm_Fg_refl _ _) (nm_K26_fr (nm_C_L C1) k1 F2 (by decide) (by decide)) (fun q a b => by rw [List.length_nil] at b; omega) (fun T' M3 F3 w3 t3 => ?_) (fun w3 M3 F3 k3 t3 => ?_)
      · have hl := (nm_gen0.1 (nm_wf_some w3).1).2
        have q3 := F T' M3 w3 (by omega) (nm_Fr_trans F02 (nm_Fr_appr F3)) t3
        rw [hl] at q3
        exact h_72_51 (nm_C_L (nm_C_fr C2 F3 (by decide +kernel))) ⟨fun c => absurd c (by decide), fun _ => q3⟩
      · exact h_72_51 (nm_C_L (nm_C_fr C2 F3 (by decide +kernel))) ⟨fun _ => Z w3 M3 (nm_Fr_trans F02 (nm_Fr_appr F3)), fun c => absurd rfl c⟩
  exact loop 0 (Nat.zero_le _) (fun n' h => absurd h (Nat.not_lt_zero _))
theorem nmp_24 {d : Nat} {H i : Int} {X : nm_X} {M : am_M} {Q : List am_V → am_M → Prop} (hd : 16 ≤ d) (hC : nm_C M X) (hok : nm_ok X) (hQ : nm_KC (sp_24 X H i).1 [(0, (sp_24 X H i).2)] M Q) : am_CL d 24 [(2, 0), (0, H), (0, i)] M Q := by
  have hL := nm_C_L hC
  have o0 := hC.1.2.2.1.1
  have q := hQ M nm_cR hC
  unfold sp_24 at hQ q
  simp only at hQ q
  refine h_24_0 hL ⟨by omega, nmc_49 hL (fun a0 a1 => ?_) (fun a0 => ?_)⟩
  · refine h_24_4 hL ⟨fun c => absurd c (by decide), fun _ => ⟨fun c => ?_, fun c => ⟨fun c' => ⟨by omega, ?_⟩, fun c' => ?_⟩⟩⟩
    · rw [if_neg (fun z => by omega)] at q; exact q
    · rw [if_pos ⟨⟨a0, a1⟩, by omega⟩] at hQ
      refine nmc_72 (by omega) hok hC a0 a1 (fun w M1 F1 => ?_) (fun T M1 w l1 F1 t1 => ?_)
      · have C1 := nm_C_fr hC F1 (by decide +kernel)
        have r := hQ M1 (nm_cF F1 (by decide +kernel)) C1
        rw [w] at r
        refine h_24_28 (nm_C_L C1) ⟨fun _ => ⟨fun _ => r, fun e => absurd (by omega) e⟩, fun _ => r⟩
      · have C1 := nm_C_fr hC F1 (by decide +kernel)
        have r := hQ M1 (nm_cF F1 (by decide +kernel)) C1
        rw [w] at r
        refine h_24_28 (nm_C_L C1) ⟨fun ni => ⟨fun h => ?_, fun h => ⟨by omega, by omega, ?_⟩⟩, fun ni => ?_⟩
        · rw [show nm_wr i (some T) = -1 by show (if i = -1 then _ else _) = _; rw [if_neg ni, if_neg (by omega)]] at r; exact r
        · rw [show nm_wr i (some T) = nm_at T i by show (if i = -1 then _ else _) = _; rw [if_neg ni, if_pos (by omega)]] at r
          rw [t1 i (by omega) (by omega)]; exact r
        · rw [show nm_wr i (some T) = (T.length : Int) by show (if i = -1 then _ else _) = _; rw [if_pos (Decidable.of_not_not ni)]] at r; exact r
    · rw [if_pos ⟨⟨a0, a1⟩, by omega⟩] at q
      cases hw : nm_wf X H (nm_gs (nm_cn X) (nx_S X 0) ((nx_S X 0).toNat + 1) 0) with
      | none => rw [hw] at q; exact q
      | some T =>
        obtain ⟨j, _, hj, hg⟩ := (nm_gs_mem _ _).1 (nm_wf_some hw).1
        have hl := (nm_gen0.1 hg).2
        rw [hw, show nm_wr i (some T) = -1 by show (if i = -1 then _ else _) = _; rw [if_neg (by omega), if_neg (by omega)]] at q
        exact q
  · rw [if_neg (fun z => by omega)] at q
    exact h_24_4 hL ⟨fun _ => q, fun c => absurd rfl c⟩
abbrev nm_w73 : nm_Rg := nm_loC ++ nm_cnC
theorem nmp_25 {d : Nat} {H : Int} {X : nm_X} {M : am_M} {Q : List am_V → am_M → Prop} (hd : 16 ≤ d) (hC : nm_C M X) (hok : nm_ok X) (hQ : nm_KC (sp_25 X H).1 [(0, (sp_25 X H).2)] M Q) : am_CL d 25 [(2, 0), (0, H)] M Q := by
  have hL := nm_C_L hC
  have o0 := hC.1.2.2.1.1
  have oc := hC.1.2.2.1.2.2.2.2.2.2.2.2.2.2.2.1
  have q := hQ M nm_cR hC
  unfold sp_25 at hQ q
  simp only at hQ q
  refine h_25_0 hL ⟨by omega, nmc_49 hL (fun a0 a1 => ?_) (fun a0 => ?_)⟩
  · rw [if_pos ⟨a0, a1⟩] at hQ
    refine h_25_4 hL ⟨fun c => absurd c (by decide), fun _ => ⟨by omega, ?_⟩⟩
    refine h_73_0 hL ?_
    rw [nm_s0 hC.1.2.1]
    obtain ⟨n, hn⟩ : ∃ n : Nat, (n : Int) = min (nx_S X 0) H := ⟨(min (nx_S X 0) H).toNat, by omega⟩
    rw [← hn]
    refine ⟨by omega, by omega, nmc_81 (by omega) hC hok (by omega) (by omega) a1 (fun M1 F1 t1 => ?_)⟩
    have C1 := nm_C_fr hC F1 (by decide +kernel)
    have F01 : nm_Fr nm_w73 M M1 := nm_Fr_appl F1
    refine h_73_18 (nm_C_L C1) ⟨by omega, nmc_83 C1 (fun M2 F2 k2 => ?_)⟩
    have C2 := nm_C_fr C1 F2 (by decide +kernel)
    have F02 : nm_Fr nm_w73 M M2 := nm_Fr_trans F01 (nm_Fr_sub F2 (by decide +kernel))
    have hb := nm_off_in (l := []) (c := nm_ck X) (by decide) oc 8 (by decide)
    have hof : nm_ofl X H [] ≤ 100000000 := by
      show nm_sm (fun q => nm_ab ((([] : List Int).count q : Int) - nm_ck X q)) 8 ≤ 100000000
      omega
    have e2 : am_gt M2 20 11 = nm_ofl X H [] := k2.2
    refine h_73_22 (nm_C_L C2) ⟨by omega, ?_⟩
    rw [e2]
    have F3 : nm_Fr nm_cnC M2 (am_st M2 20 12 (nm_ofl X H [])) := nm_Fr_st (nm_Fg_refl _ _) (by decide)
    have k3 : nm_K26 (am_st M2 20 12 (nm_ofl X H [])) (nm_ck X) [] := ⟨fun q a b => (nm_st_ne (by decide)).trans (k2.1 q a b), (nm_st_nj (by decide)).trans k2.2⟩
    have b3 : am_gt (am_st M2 20 12 (nm_ofl X H [])) 20 12 = nm_ofl X H [] := nm_st_eq
    generalize am_st M2 20 12 (nm_ofl X H []) = M3 at F3 k3 b3 ⊢
    have t2 : nm_TC M2 (nx_S X 0) (n : Int) H (nm_cn X) (nm_mkx X) := fun m p a b c e => by
      refine ⟨(nm_gt_frn F2 (nm_C_L C1) (by decide) (by decide)).trans (t1 m p a b c e).1, fun x h y z => ?_⟩
      exact (nm_gt_frn F2 (nm_C_L C1) (by decide) (by decide)).trans ((t1 m p a b c e).2 x h y z)
    refine nmc_86 (M := M2) hok C2 (by omega) (by omega) a1 t2 n [] _ M3 _ _ (by omega) (by rw [List.length_nil]; omega) (fun a ha => by cases ha) F3 k3 b3 (fun M4 F4 k4 b4 => ?_)
    have C4 := nm_C_fr C2 F4 (by decide +kernel)
    have F04 : nm_Fr nm_w73 M M4 := nm_Fr_trans F02 (nm_Fr_appr F4)
    rw [nm_near_eq (by omega) hn hof] at b4
    refine h_73_39 (nm_C_L C4) ?_
    rw [b4]
    exact h_25_15 (nm_C_L C4) (hQ M4 (nm_cF F04 (by decide +kernel)) C4)
  · rw [if_neg (fun z => by omega)] at q
    exact h_25_4 hL ⟨fun _ => q, fun c => absurd rfl c⟩
