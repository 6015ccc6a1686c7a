/-! ORDERS OF THE CLASS -/
theorem rd_on_ok {X : nm_X} {c : rd_C} {dn md : Int} {st : rd_S} (h : nm_ok X) (hc : rd_cok c) (hs : rd_on X c dn md = some st) : nm_ok st.1 := by
  unfold rd_on at hs
  split at hs
  · cases hs; exact h
  · cases hm : rd_m c (rd_oe (nx_S X) (nx_W X) dn md) with
    | none => rw [hm] at hs; cases hs
    | some m =>
      rw [hm] at hs
      cases hb : rd_b c (rd_oe (nx_S X) (nx_W X) dn md) with
      | none => rw [hb] at hs; cases hs
      | some b =>
        rw [hb] at hs
        simp only at hs
        unfold rd_one at hs
        split at hs
        · cases hs
        · cases hs; exact nm_ok_ch hc.1 h
theorem rd_rep_ok {c : rd_C} (hc : rd_cok c) : ∀ (t : Nat) (st st' : rd_S), nm_ok st.1 → rd_rep c t st = some st' → nm_ok st'.1
  | 0, st, st', h, hs => by cases hs; exact h
  | t + 1, st, st', h, hs => by
    simp only [rd_rep] at hs
    cases ho : rd_on st.1 c st.2.1 st.2.2 with
    | none => rw [ho] at hs; cases hs
    | some s1 => rw [ho] at hs; exact rd_rep_ok hc t s1 st' (rd_on_ok h hc ho) hs
theorem rd_all_ok : ∀ (cs : List rd_C) (k : Int) (st st' : rd_S), (∀ c ∈ cs, rd_cok c) → nm_ok st.1 → rd_all cs k st = .ok st' → nm_ok st'.1
  | [], k, st, st', _, h, hs => by cases hs; exact h
  | c :: cs, k, st, st', hc, h, hs => by
    simp only [rd_all] at hs
    cases ho : rd_rep c c.2.2.2.1.toNat st with
    | none => rw [ho] at hs; cases hs
    | some s1 => rw [ho] at hs; exact rd_all_ok cs (k + 1) s1 st' (fun x hx => hc x (List.mem_cons_of_mem _ hx)) (rd_rep_ok (hc c List.mem_cons_self) _ _ _ h ho) hs
theorem nm_ok_X1 {X : nm_X} {R : Int → Int} (h : nm_ok X) (e : R 10 = nx_R X 10) : nm_ok (ns_R (ns_L X 0) R) := nm_ok_R (X := ns_L X 0) (nm_ok_L0 h) e
theorem nm_ok_14 {X : nm_X} (h : nm_ok X) : nm_ok (sp_14 X).1 := by
  have hT := nm_tkok h
  unfold sp_14
  cases ht : rd_text (nx_P X, nx_L X) 1 with
  | error p => exact nm_ok_rf (nm_ok_X1 h ((nm_up_ne (by decide)).trans (nm_up_ne (by decide)))) (by decide)
  | ok cs =>
    simp only
    cases ha : rd_all cs 0 (ns_R (ns_L X 0) (nm_up (nm_up (nx_R X) 9 (-1)) 8 (-1)), 0, -1) with
    | error k => exact nm_ok_rf (nm_ok_X1 h ((nm_up_ne (by decide)).trans ((nm_up_ne (by decide)).trans (nm_up_ne (by decide))))) (by decide)
    | ok st => exact nm_ok_fn (rd_all_ok cs 0 _ st (rd_text_ok hT ht).1 (nm_ok_X1 h ((nm_up_ne (by decide)).trans (nm_up_ne (by decide)))) ha)
theorem nmp_14 {d : Nat} {X : nm_X} {M : am_M} {Q : List am_V → am_M → Prop} (hd : 40 ≤ d) (hC : nm_C M X) (hok : nm_ok X) (hQ : nm_KC (sp_14 X).1 [(0, (sp_14 X).2)] M Q) : am_CL d 14 [(2, 0)] M Q := by
  have hL := nm_C_L hC
  have hT := nm_tkok hok
  have C0 := nm_C_9 (v := -1) hC
  have F0 : nm_Fr nm_Rg1 M (am_st M 0 17 (-1)) := nm_Fr_st (nm_Fg_refl _ _) (by decide)
  have hP : rc_tp (am_st M 0 17 (-1)) (nx_P X, nx_L X) := C0.2.2.2.2.2.2.2.2.2.1
  unfold sp_14 at hQ
  refine h_14_0 hL ⟨by omega, rc_96 (o := 1) (by omega) hT (.inr rfl) (by decide) (nm_C_L C0) hP (fun p M1 hp F1 e1 e2 => ?_) (fun cs t M1 hp hne F1 e1 e2 hT1 => ?_)⟩
  · rw [hp] at hQ
    have C1 := nm_C_P (P := nx_P X) (L := 0) C0 F1 (by decide +kernel) ⟨e1, fun i a b => by omega⟩
    have C2 := nm_C_8 (v := p) C1
    refine h_14_13 (nm_C_L C1) ⟨fun h => absurd rfl h, fun _ => ⟨by omega, ?_⟩⟩
    rw [e2]
    refine nmx_43 (by decide) C2 (fun M3 F3 C3 => h_14_35 (nm_C_L C3) (hQ M3 ?_ C3))
    refine nm_cFF (f := nm_cAll) (n := 0) (s := 0) ?_ F3 (by decide +kernel) (by decide) (by decide)
    exact nm_Fr_st (nm_Fr_trans (nm_Fr_sub F0 (by decide +kernel)) (nm_Fr_sub F1 (by decide +kernel))) (by decide +kernel)
  · rw [hp] at hQ
    simp only at hQ
    obtain ⟨hcok, len1, len2⟩ := rd_text_ok hT hp
    have C1 := nm_C_P (P := nx_P X) (L := 0) C0 F1 (by decide +kernel) ⟨e1, fun i a b => by omega⟩
    have C2 : nm_C (am_st M1 0 16 (-1)) (ns_R (ns_L X 0) (nm_up (nm_up (nx_R X) 9 (-1)) 8 (-1))) := nm_C_8 (v := -1) C1
    have ok1 : nm_ok (ns_R (ns_L X 0) (nm_up (nm_up (nx_R X) 9 (-1)) 8 (-1))) := nm_ok_X1 hok ((nm_up_ne (by decide)).trans (nm_up_ne (by decide)))
    have F12 : nm_Fg 3 600 nm_cAll M (am_st M1 0 16 (-1)) := nm_Fr_st (nm_Fg_sub (nm_Fg_trans (nm_Fr_sub F0 (g := nm_cAll) (by decide +kernel)) (nm_Fg_sub F1 (g := nm_cAll) (by decide +kernel) (Int.le_refl _) (Int.le_refl _))) (by decide +kernel) (by decide) (by decide)) (by decide +kernel)
    have T2 : rc_T (am_st M1 0 16 (-1)) 1 t cs := rc_T_fr hT1 (nm_Fr_st (nm_Fg_refl [(0, 16, 17)] M1) (by decide)) (by decide)
    refine h_14_13 (nm_C_L C1) ⟨fun _ => ⟨by omega, ?_⟩, fun h => absurd h hne⟩
    rw [e2]
    generalize am_st M1 0 16 (-1) = M2 at C2 T2 F12 ⊢
    generalize hX1 : ns_R (ns_L X 0) (nm_up (nm_up (nx_R X) 9 (-1)) 8 (-1)) = X1 at C2 ok1 hQ
    refine nmc_136 (by omega) (nm_C_L C2) (by decide) (by decide) (by decide) C2.2.1 (fun M3 F3 W3 => ?_)
    have C3 := nm_C_fr C2 F3 (by decide +kernel)
    refine h_14_50 (nm_C_L C3) ⟨by omega, nmc_134_101 (by omega) (nm_C_L C3) C3.2.2.2.2.2.2.2.1 C3.2.2.2.2.2.2.2.2.1 (fun M4 F4 U4 => ?_)⟩
    have C4 := nm_C_101 C3 F4 U4.1
    have W4 : nm_CW M4 172 (nx_W X1) := nm_CW_fr W3 (nm_C_L C3) (by decide) F4 (by decide +kernel)
    have T4 := rc_T_fr (rc_T_fr T2 F3 (by decide +kernel)) F4 (by decide +kernel)
    have F14 : nm_Fg (3 + 0 + 0) (600 + 0 + 0) nm_cAll M M4 := nm_Fg_trans (nm_Fg_trans F12 (nm_Fr_sub F3 (g := nm_cAll) (by decide +kernel))) (nm_Fr_sub F4 (g := nm_cAll) (by decide +kernel))
    refine h_14_61 (nm_C_L C4) ⟨by omega, rc_56 (by omega) C4 ok1 T4 hcok (fun k X' M5 r hall k0 k1 sm F5 C5 => ?_) (fun X2 dn md M5 hall sm ok2 d0 F5 C5 => ?_)⟩
    · rw [hall] at hQ
      obtain ⟨W', U', rfl⟩ := sm
      have L5 := nm_C_L C5
      have L4 := nm_C_L C4
      have g17 : am_gt M5 0 17 = k := (C5.2.2.2.2.2.2.2.2.2.2.1.2.2.2.2.2.2.2.2.1).trans (nm_up_eq (nx_R (ns_U (ns_W X1 W') U')) 9 k)
      have W5 : nm_CW M5 172 (nx_W X1) := nm_CW_fr W4 L4 (by decide) F5 (by decide +kernel)
      have U5 : nm_CU M5 101 (nx_U X1) := nm_CU_fr (.inr rfl) U4 L4 F5 (by decide +kernel)
      refine h_14_66 L5 ⟨fun h => absurd h (by rw [g17]; omega), fun _ => ⟨by omega, nmc_136 (by omega) L5 (by decide) (by decide) (by decide) W5 (fun M6 F6 W6 => ?_)⟩⟩
      have C6 := nm_C_W C5 F6 W6
      have L6 := nm_C_L C6
      have U6 : nm_CU M6 101 (nx_U X1) := nm_CU_fr (.inr rfl) U5 L5 F6 (by decide +kernel)
      refine h_14_89 L6 ⟨by omega, nmc_134_34 (by omega) L6 U6 C6.2.2.2.2.2.2.2.1.1 (fun M7 F7 U7 => ?_)⟩
      have C7 := nm_C_U C6 F7 U7
      have eX : ns_U (ns_W (ns_R (ns_U (ns_W X1 W') U') (nm_up (nx_R (ns_U (ns_W X1 W') U')) 9 k)) (nx_W X1)) (nx_U X1) = ns_R (ns_L X 0) (nm_up (nm_up (nm_up (nx_R X) 9 (-1)) 8 (-1)) 9 k) := by rw [← hX1]; rfl
      rw [eX] at C7
      refine h_14_100 (nm_C_L C7) ⟨by omega, nmx_43 (by decide) C7 (fun M8 F8 C8 => h_14_106 (nm_C_L C8) (hQ M8 ?_ C8))⟩
      refine nm_cFF (f := nm_cAll) (n := 3 + 0 + 0 + 0 + 0 + 0) (s := 600 + 0 + 0 + 0 + 0 + 0) ?_ F8 (by decide +kernel) (by decide) (by decide)
      exact nm_Fg_trans (nm_Fg_trans (nm_Fg_trans F14 (nm_Fr_sub F5 (g := nm_cAll) (by decide +kernel))) (nm_Fr_sub F6 (g := nm_cAll) (by decide +kernel))) (nm_Fr_sub F7 (g := nm_cAll) (by decide +kernel))
    · rw [hall] at hQ
      obtain ⟨W', U', rfl⟩ := sm
      have L5 := nm_C_L C5
      have g17 : am_gt M5 0 17 = -1 := by
        have := C5.2.2.2.2.2.2.2.2.2.2.1.2.2.2.2.2.2.2.2.1
        rw [this, ← hX1]
        show nm_up (nm_up (nx_R X) 9 (-1)) 8 (-1) 9 = -1
        rw [nm_up_ne (by decide), nm_up_eq]
      refine h_14_66 L5 ⟨fun _ => ⟨by omega, nmx_44 C5 (fun M8 F8 C8 => h_14_112 (nm_C_L C8) (hQ M8 ?_ C8))⟩, fun h => absurd g17 h⟩
      exact nm_cFF (f := nm_cAll) (n := 3 + 0 + 0 + 0) (s := 600 + 0 + 0 + 0) (nm_Fg_trans F14 (nm_Fr_sub F5 (g := nm_cAll) (by decide +kernel))) F8 (by decide +kernel) (by decide) (by decide)
