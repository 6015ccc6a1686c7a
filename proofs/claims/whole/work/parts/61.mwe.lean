/-! THE REFERENCE: wearing, passing, its calls -/
abbrev nm_egM : nm_Rg := (nm_tg ++ [(236, 0, 6)]) ++ nm_wgM
/-- the works while places are worn from the last one on -/
def nm_wp (S : Int → Int) (T : nm_T) (W : nm_W) (p : Nat) : nm_W := (W.1, W.2.1.take p ++ (W.2.1.drop p).filter (fun m => decide (0 < nm_ws S T W W.2.1.length m)), fun m => if m ∈ W.2.1.drop p then nm_ws S T W W.2.1.length m else W.2.2.1 m, W.2.2.2)
theorem nm_ws_mem {S : Int → Int} {T : nm_T} {W : nm_W} {m : Int} (h : m ∈ W.2.1) : nm_ws S T W W.2.1.length m = max 0 (W.2.2.1 m - nm_wear S W T m (nm_ix W.2.1 m)) := by
  unfold nm_ws; rw [List.take_length, if_pos h]
theorem nm_ws_out {S : Int → Int} {T : nm_T} {W : nm_W} {m : Int} (h : m ∉ W.2.1) : nm_ws S T W W.2.1.length m = W.2.2.1 m := by
  unfold nm_ws; rw [List.take_length, if_neg h]
theorem nm_drop1 {l : List Int} {q : Nat} (h : q < l.length) : l.drop q = l.getD q 0 :: l.drop (q + 1) := by rw [nm_getD h]; exact List.drop_eq_getElem_cons h
theorem nm_nodup_drop {l : List Int} (hl : l.Nodup) {k : Nat} (hk : k < l.length) : l.getD k 0 ∉ l.drop (k + 1) := by
  have : (l.drop k).Nodup := List.Nodup.sublist (List.drop_sublist _ _) hl
  rw [nm_drop1 hk, List.nodup_cons] at this
  exact this.1
theorem nm_cut30 {v : Int} (h : v ≤ 30) : nm_cut v 0 30 = max 0 v := by
  unfold nm_cut
  by_cases h1 : v < 0
  · rw [if_pos h1]; omega
  · rw [if_neg h1, if_neg (by omega)]; omega
theorem nmm_222 {d : Nat} {S : Int → Int} {W : nm_W} {D : Int → nm_T} {M : am_M} {Q : List am_V → am_M → Prop} (hd : 8 ≤ d) (hA : nm_MA M S W D) (oW : nm_okW (S 0) W) (hQ : ∀ M', nm_Fr nm_egM M M' → nm_MW M' (nm_wearW S (nm_lwf S D) W) → Q [] M') : am_CL d 222 [(2, 214)] M Q := by
  have hA0 := hA
  have oW0 := oW
  obtain ⟨hL, hS, hW, hO, hX, a6⟩ := hA
  have o0 := hO.1
  have l6 := hW.2.2.1
  obtain ⟨n1, n2, nd, nm, ns, nst⟩ := oW
  have second : ∀ p : Nat, p ≤ W.2.1.length → ∀ (M2 : am_M) (l2 : am_V), nm_Fr nm_egM M M2 → nm_MW M2 (nm_wp S (nm_lwf S D) W p) → (∀ j : Nat, j < W.2.1.length → am_gt M2 236 (j : Int) = nm_wear S W (nm_lwf S D) (W.2.1.getD j 0) (nm_ix W.2.1 (W.2.1.getD j 0))) → am_WP d am_c222 48 [(2, 214), (0, (p : Int) - 1), l2] [] M2 Q := by
    intro p
    induction p with
    | zero =>
      intro hp M2 l2 F2 W2 a2
      have hL2 := nm_Lay_fr hL F2 (by decide +kernel)
      refine h_222_48 hL2 ⟨fun _ => ?_, fun h => absurd (by decide) h⟩
      have e4 : am_gt M2 216 4 = W.1 := W2.1
      rw [e4, am_w_id (by omega) (by omega)]
      refine hQ _ (nm_Fr_st F2 (by decide +kernel)) (nm_MW_ext (nm_MW_n (v := W.1 + 1) W2) rfl ?_ (fun m a b => ?_) (fun p a b => rfl))
      · show W.2.1.filter _ = W.2.1.take 0 ++ (W.2.1.drop 0).filter _
        rw [List.take_zero, List.drop_zero, List.nil_append]
      · show nm_ws S (nm_lwf S D) W W.2.1.length m = if m ∈ W.2.1.drop 0 then nm_ws S (nm_lwf S D) W W.2.1.length m else W.2.2.1 m
        rw [List.drop_zero]
        by_cases hm : m ∈ W.2.1
        · rw [if_pos hm]
        · rw [if_neg hm, nm_ws_out hm]
    | succ q ih =>
      intro hp M2 l2 F2 W2 a2
      have hL2 := nm_Lay_fr hL F2 (by decide +kernel)
      have hq : q < W.2.1.length := by omega
      have hmem := nm_getD_mem hq
      have hmb := nm _ hmem
      have hnd := nm_nodup_drop nd hq
      have hlq : q < (W.2.1.take (q + 1) ++ (W.2.1.drop (q + 1)).filter (fun m => decide (0 < nm_ws S (nm_lwf S D) W W.2.1.length m))).length := by rw [List.length_append, List.length_take]; omega
      have g9 : am_gt M2 216 (9 + (q : Int)) = W.2.1.getD q 0 := by
        rw [W2.2.2.2.1 q hlq]
        show (W.2.1.take (q + 1) ++ _).getD q 0 = _
        rw [nm_getD_app (by rw [List.length_take]; omega), List.getD_eq_getElem?_getD, List.getElem?_take, if_pos (by omega), List.getD_eq_getElem?_getD]
      have g15 : am_gt M2 216 (15 + W.2.1.getD q 0) = W.2.2.1 (W.2.1.getD q 0) := by
        rw [W2.2.2.2.2.1 _ hmb.1 (by omega)]
        show (if _ ∈ W.2.1.drop (q + 1) then _ else _) = _
        rw [if_neg hnd]
      have bs := ns _ hmb.1 (show W.2.1.getD q 0 < 6 by omega)
      have bw := nm_wear_in (S := S) (W := W) (T := nm_lwf S D) (m := W.2.1.getD q 0) (p := nm_ix W.2.1 (W.2.1.getD q 0))
      have hc : ((q + 1 : Nat) : Int) - 1 = (q : Int) := by omega
      rw [hc]
      refine h_222_48 hL2 ⟨fun h => absurd h (by omega), fun _ => ?_⟩
      rw [am_w_id (x := 9 + (q : Int)) (by omega) (by omega), g9, am_w_id (x := 15 + _) (by omega) (by omega), g15, a2 q hq, am_w_id (x := _ - _) (by omega) (by omega)]
      refine ⟨by omega, by omega, by omega, by omega, by omega, by omega, by omega, nm_m144 hL2 (by decide) (by decide) ?_⟩
      have ews : nm_cut (W.2.2.1 (W.2.1.getD q 0) - nm_wear S W (nm_lwf S D) (W.2.1.getD q 0) (nm_ix W.2.1 (W.2.1.getD q 0))) 0 30 = nm_ws S (nm_lwf S D) W W.2.1.length (W.2.1.getD q 0) := by rw [nm_cut30 (by omega), nm_ws_mem hmem]
      rw [ews]
      have F3 : nm_Fr nm_egM M (am_st M2 216 (15 + W.2.1.getD q 0) (nm_ws S (nm_lwf S D) W W.2.1.length (W.2.1.getD q 0))) := nm_Fr_st F2 (nm_in_c (lo := 8) (hi := 29) (by decide +kernel) (by omega) (by omega))
      have W3 := nm_MW_s (m := W.2.1.getD q 0) (v := nm_ws S (nm_lwf S D) W W.2.1.length (W.2.1.getD q 0)) W2 hmb.1 (by omega)
      have hL3 := nm_Lay_fr hL F3 (by decide +kernel)
      have a3 : ∀ j : Nat, j < W.2.1.length → am_gt (am_st M2 216 (15 + W.2.1.getD q 0) (nm_ws S (nm_lwf S D) W W.2.1.length (W.2.1.getD q 0))) 236 (j : Int) = nm_wear S W (nm_lwf S D) (W.2.1.getD j 0) (nm_ix W.2.1 (W.2.1.getD j 0)) := fun j hj => by rw [nm_st_ne (by decide)]; exact a2 j hj
      have esil : ∀ m, 0 ≤ m → m < 6 → (nm_wp S (nm_lwf S D) W q).2.2.1 m = nm_up (nm_wp S (nm_lwf S D) W (q + 1)).2.2.1 (W.2.1.getD q 0) (nm_ws S (nm_lwf S D) W W.2.1.length (W.2.1.getD q 0)) m := by
        intro m _ _
        show (if m ∈ W.2.1.drop q then _ else _) = (if m = W.2.1.getD q 0 then _ else if m ∈ W.2.1.drop (q + 1) then _ else _)
        rw [nm_drop1 hq]
        by_cases hm : m = W.2.1.getD q 0
        · rw [if_pos (by rw [hm]; exact List.mem_cons_self), if_pos hm, hm]
        · rw [if_neg hm]
          by_cases hm2 : m ∈ W.2.1.drop (q + 1)
          · rw [if_pos (List.mem_cons_of_mem _ hm2), if_pos hm2]
          · rw [if_neg (fun c => (List.mem_cons.mp c).elim hm hm2), if_neg hm2]
      refine h_222_93 hL2 ?_
      rw [am_w_id (x := 15 + _) (by omega) (by omega), nm_st_eq]
      refine ⟨by omega, by omega, by omega, by omega, fun hz => ?_, fun hz => ⟨by omega, ?_⟩⟩
      · refine h_222_111 hL3 ?_
        rw [am_w_id (x := (q : Int) + -1) (by omega) (by omega), show (q : Int) + -1 = (q : Int) - 1 by omega]
        have hpos : 0 < nm_ws S (nm_lwf S D) W W.2.1.length (W.2.1.getD q 0) := by rw [nm_ws_mem hmem] at hz ⊢; omega
        refine ih (by omega) _ _ F3 (nm_MW_ext W3 rfl ?_ esil (fun p a b => rfl)) a3
        show W.2.1.take q ++ (W.2.1.drop q).filter _ = W.2.1.take (q + 1) ++ (W.2.1.drop (q + 1)).filter _
        rw [nm_drop1 hq, List.filter_cons_of_pos (by simp only [decide_eq_true_eq]; exact hpos), nm_take1 hq, List.append_assoc]; rfl
      · have hz0 : nm_ws S (nm_lwf S D) W W.2.1.length (W.2.1.getD q 0) = 0 := by omega
        refine nmm_216 (k := q) hL3 W3 hlq (fun M4 F4 W4 => ?_)
        have F04 : nm_Fr nm_egM M M4 := nm_Fr_trans F3 (nm_Fr_appr F4)
        have hL4 := nm_Lay_fr hL F04 (by decide +kernel)
        refine h_222_111 hL4 ?_
        rw [am_w_id (x := (q : Int) + -1) (by omega) (by omega), show (q : Int) + -1 = (q : Int) - 1 by omega]
        refine ih (by omega) M4 _ F04 (nm_MW_ext W4 rfl ?_ esil (fun p a b => rfl)) (fun j hj => by rw [nm_gt_frn F4 hL3 (by decide) (by decide +kernel)]; exact a3 j hj)
        show W.2.1.take q ++ (W.2.1.drop q).filter _ = (W.2.1.take (q + 1) ++ (W.2.1.drop (q + 1)).filter _).eraseIdx q
        have hlt : (W.2.1.take q).length = q := by rw [List.length_take]; omega
        rw [nm_drop1 hq, List.filter_cons_of_neg (by simp only [decide_eq_true_eq]; omega), nm_take1 hq, List.append_assoc, List.eraseIdx_append_of_length_le (by omega), hlt, Nat.sub_self]; rfl
  refine h_222_0 hL ?_
  have first : ∀ k, k ≤ W.2.1.length → ∀ (M1 : am_M), nm_Fr (nm_tg ++ [(236, 0, 6)]) M M1 → (∀ j : Nat, j < k → am_gt M1 236 (j : Int) = nm_wear S W (nm_lwf S D) (W.2.1.getD j 0) (nm_ix W.2.1 (W.2.1.getD j 0))) → am_WP d am_c222 2 [(2, 214), (0, (k : Int)), (9, 0)] [] M1 Q := by
    refine nm_dn ?_
    intro k hk ih M1 F1 a1
    have hA1 := nm_MA_fr hA0 F1 (by decide +kernel) (by decide +kernel) (by decide +kernel)
    have e8 : am_gt M1 216 8 = (W.2.1.length : Int) := hA1.2.2.1.2.1
    refine h_222_2 hA1.1 ?_
    rw [e8]
    refine ⟨fun h => ?_, fun h => ?_⟩
    · have hke : k = W.2.1.length := by omega
      subst hke
      rw [am_w_id (by omega) (by omega)]
      refine second _ (Nat.le_refl _) M1 _ (nm_Fr_appl F1) (nm_MW_ext hA1.2.2.1 rfl ?_ (fun m a b => ?_) (fun p a b => rfl)) a1
      · show W.2.1.take W.2.1.length ++ (W.2.1.drop W.2.1.length).filter _ = W.2.1
        rw [List.take_length, List.drop_length, List.filter_nil, List.append_nil]
      · show (if m ∈ W.2.1.drop W.2.1.length then _ else _) = _
        rw [List.drop_length, if_neg List.not_mem_nil]
    · have hkl : k < W.2.1.length := by omega
      have hmb := nm _ (nm_getD_mem hkl)
      rw [am_w_id (x := 9 + (k : Int)) (by omega) (by omega), hA1.2.2.1.2.2.2.1 k hkl]
      refine ⟨by omega, by omega, by omega, nm_m209 (by omega) hA1 oW0 hmb.1 (by omega) (fun M2 F2 => ?_)⟩
      have F02 : nm_Fr (nm_tg ++ [(236, 0, 6)]) M M2 := nm_Fr_trans F1 (nm_Fr_appl F2)
      refine h_222_31 (nm_Lay_fr hL F02 (by decide +kernel)) ⟨by omega, by omega, ?_⟩
      rw [nm_wk (by omega)]
      refine ih hkl _ (nm_Fr_st F02 (nm_in_c (a := 236) (lo := 0) (hi := 6) (by decide +kernel) (by omega) (by omega))) (fun j hj => ?_)
      rw [nm_gt_st]
      by_cases hjk : j = k
      · subst hjk; rw [if_pos ⟨rfl, rfl⟩]
      · rw [if_neg (by omega), nm_gt_frn F2 hA1.1 (by decide) (by decide +kernel)]; exact a1 j (by omega)
  exact first 0 (Nat.zero_le _) M (nm_Fg_refl _ _) (fun j hj => absurd hj (by omega))
abbrev nm_pgM : nm_Rg := nm_lgM ++ nm_egM
theorem nm_cut99 {v : Int} (h : 0 ≤ v) : nm_cut v 0 99 = min 99 v := by
  unfold nm_cut
  rw [if_neg (by omega)]
  by_cases h1 : 99 < v
  · rw [if_pos h1]; omega
  · rw [if_neg h1]; omega
theorem nmm_223 {d : Nat} {S : Int → Int} {W : nm_W} {D : Int → nm_T} {M : am_M} {Q : List am_V → am_M → Prop} (hd : 9 ≤ d) (hA : nm_MA M S W D) (oW : nm_okW (S 0) W) (hQ : ∀ M', nm_Fr nm_pgM M M' → nm_MW M' (nm_pass S (nm_lwf S D) W) → Q [(0, ((nm_all S W (nm_lwf S D) (S 7)).length : Int))] M') : am_CL d 223 [(2, 214)] M Q := by
  have hA0 := hA
  have nst := oW.2.2.2.2.2
  refine h_223_0 hA.1 ⟨by omega, nmm_221 (by omega) hA oW (fun M1 F1 a1 => ?_)⟩
  have hA1 := nm_MA_fr hA0 F1 (by decide +kernel) (by decide +kernel) (by decide +kernel)
  refine h_223_4 hA1.1 ?_
  have hcl : ∀ q, ((nm_all S W (nm_lwf S D) (S 7)).count q : Int) ≤ 100 := fun q => by
    have h1 := List.count_le_length (a := q) (l := nm_all S W (nm_lwf S D) (S 7))
    have h2 := nm_ps_len (S := S) (W := W) (T := nm_lwf S D) hA.2.2.2.1.2.2.2.2.2.2.1.2 W.2.1.length
    have h3 : W.2.1.length ≤ 6 := hA.2.2.1.2.2.1
    have h4 : (nm_all S W (nm_lwf S D) (S 7)).length ≤ 8 * W.2.1.length := h2
    omega
  have key : ∀ k : Nat, k ≤ 8 → ∀ (M2 : am_M), nm_Fr nm_pgM M M2 → nm_MA M2 S (W.1, W.2.1, W.2.2.1, fun q => if q < (k : Int) then min 99 (W.2.2.2 q + ((nm_all S W (nm_lwf S D) (S 7)).count q : Int)) else W.2.2.2 q) D → (∀ p, 0 ≤ p → p < 8 → am_gt M2 235 p = ((nm_all S W (nm_lwf S D) (S 7)).count p : Int)) → am_WP d am_c223 7 [(2, 214), (0, ((nm_all S W (nm_lwf S D) (S 7)).length : Int)), (0, (k : Int))] [] M2 Q := by
    refine nm_dn ?_
    intro k hk ih M2 F2 hA2 a2
    refine h_223_7 hA2.1 ⟨fun h => ⟨by omega, ?_⟩, fun h => ?_⟩
    · have hk8 : k = 8 := by omega
      subst hk8
      have W3 : nm_MW M2 (nm_work S (nm_lwf S D) W) := nm_MW_ext hA2.2.2.1 rfl rfl (fun m a b => rfl) (fun p a b => by
        show min 99 (W.2.2.2 p + _) = if p < ((8 : Nat) : Int) then _ else _
        rw [if_pos (by omega)])
      have hA3 : nm_MA M2 S (nm_work S (nm_lwf S D) W) D := ⟨hA2.1, hA2.2.1, W3, hA2.2.2.2.1, hA2.2.2.2.2.1, hA2.2.2.2.2.2⟩
      refine nmm_222 (by omega) hA3 (nm_okW_work oW) (fun M4 F4 W4 => ?_)
      have F04 : nm_Fr nm_pgM M M4 := nm_Fr_trans F2 (nm_Fr_appr F4)
      exact h_223_55 (nm_Lay_fr hA0.1 F04 (by decide +kernel)) (hQ M4 F04 W4)
    · have hst := nst (k : Int) (by omega) (by omega)
      have g21 : am_gt M2 216 (21 + (k : Int)) = W.2.2.2 (k : Int) := by
        rw [hA2.2.2.1.2.2.2.2.2 (k : Int) (by omega) (by omega)]
        show (if (k : Int) < (k : Int) then _ else _) = _
        rw [if_neg (by omega)]
      have hc := hcl (k : Int)
      rw [am_w_id (x := 21 + (k : Int)) (by omega) (by omega), g21, a2 _ (by omega) (by omega), am_w_id (x := _ + _) (by omega) (by omega)]
      refine ⟨by omega, by omega, by omega, by omega, by omega, nm_m144 hA2.1 (by decide) (by decide) ?_⟩
      rw [nm_cut99 (by omega)]
      refine h_223_44 hA2.1 ⟨by omega, by omega, ?_⟩
      rw [nm_wk (by omega)]
      have F3 : nm_Fr nm_wgM M2 (am_st M2 216 (21 + (k : Int)) (min 99 (W.2.2.2 (k : Int) + ((nm_all S W (nm_lwf S D) (S 7)).count (k : Int) : Int)))) := nm_Fr_st (nm_Fg_refl _ _) (nm_in_c (lo := 8) (hi := 29) (by decide) (by omega) (by omega))
      refine ih (by omega) _ (nm_Fr_trans F2 (nm_Fr_sub F3 (by decide +kernel))) (nm_MA_W hA2 F3 (by decide +kernel) (by decide +kernel) (by decide +kernel) (nm_MW_ext (nm_MW_t (m := (k : Int)) (v := min 99 (W.2.2.2 (k : Int) + ((nm_all S W (nm_lwf S D) (S 7)).count (k : Int) : Int))) hA2.2.2.1 (by omega) (by omega)) rfl rfl (fun m a b => rfl) (fun p a b => ?_))) (fun p a b => by rw [nm_st_ne (by decide)]; exact a2 p a b)
      show (if p < ((k + 1 : Nat) : Int) then _ else _) = (if p = (k : Int) then _ else if p < (k : Int) then _ else _)
      by_cases hp : p = (k : Int)
      · rw [if_pos (by omega), if_pos hp, hp]
      · rw [if_neg hp]
        by_cases hp2 : p < (k : Int)
        · rw [if_pos (by omega), if_pos hp2]
        · rw [if_neg (by omega), if_neg hp2]
  refine key 0 (Nat.zero_le _) M1 (nm_Fr_appl F1) ⟨hA1.1, hA1.2.1, nm_MW_ext hA1.2.2.1 rfl rfl (fun m a b => rfl) (fun p a b => ?_), hA1.2.2.2.1, hA1.2.2.2.2.1, hA1.2.2.2.2.2⟩ a1
  show (if p < ((0 : Nat) : Int) then _ else _) = _
  rw [if_neg (by omega)]
/-- what changes the works -/
abbrev nm_chM : nm_Rg := [(214, 8, 9), (219, 0, 400), (220, 0, 16)] ++ nm_pgM
theorem nm_M_ch {M M' : am_M} {X : nm_X} {W : nm_W} {U : List (Int × nm_W)} (hok : nm_ok X) (hM : nm_M M X) (F : nm_Fr nm_chM M M') (hW : nm_MW M' W) (hU : nm_MU M' (nx_S X) U) : nm_M M' (ns_U (ns_W X W) U) := by
  have hL := nm_M_L hM
  have hM1 := hM
  obtain ⟨m1, m2, m3, m4, m5, m6⟩ := hM1
  exact ⟨nm_MA_W m1 F (by decide +kernel) (by decide +kernel) (by decide +kernel) hW, fun k a b => ⟨(nm_gt_frn F hL (by decide) (by decide +kernel)).trans (m2 k a b).1, fun e => nm_MI_fr (nm_ok_I hok a b e) ((m2 k a b).2 e) hL F (by decide +kernel)⟩, hU, nm_MP_fr m4 hL F (by decide +kernel) (by decide +kernel), nm_MR_fr m5 hL F (by decide +kernel) (by decide +kernel), nm_MY_fr m6 hL F (by decide +kernel)⟩
theorem nm_M_tg {M M' : am_M} {X : nm_X} (hok : nm_ok X) (hM : nm_M M X) (F : nm_Fr nm_tg M M') : nm_M M' X := nm_M_fr hok hM F (by decide +kernel)
/-- hang -/
theorem nmm_214 {d : Nat} {m b : Int} {X : nm_X} {M : am_M} {Q : List am_V → am_M → Prop} (hd : 9 ≤ d) (hM : nm_M M X) (hok : nm_ok X) (hQ : ∀ M', nm_Fr nm_chM M M' → nm_M M' (nm_ch X 0 m b).1 → Q [(0, (nm_ch X 0 m b).2)] M') : am_CL d 214 [(2, 214), (0, m)] M Q := by
  have oW : nm_okW (nx_S X 0) (nx_W X) := hok.1.2.2.1
  have hL := nm_M_L hM
  have hM1 := hM
  obtain ⟨m1, m2, m3, m4, m5, m6⟩ := hM1
  have m1' := m1
  obtain ⟨a1, hS, hW, hO, hX, a6⟩ := m1
  have eA : nm_chA (nx_S X) (nx_W X) (nm_lwf (nx_S X) (nx_D X)) 0 m b = nm_hangR (nx_S X) (nx_W X) (nm_lwf (nx_S X) (nx_D X)) m := by unfold nm_chA; rw [if_pos rfl]
  unfold nm_ch at hQ
  rw [eA] at hQ
  refine h_214_0 hL ⟨by omega, nmm_154 (by omega) hL hS hO (fun a0 a1 => ?_) (fun a0 => ?_)⟩
  · refine h_214_5 hL ⟨fun _ => ⟨by omega, nmm_212 (by omega) m1' oW a0 a1 (fun M1 F1 e hl h6 => ?_) (fun M1 F1 e => ?_)⟩, fun h => absurd h (by decide)⟩
    · rw [e, if_neg (by omega)] at hQ
      have hM1 := nm_M_tg hok hM F1
      refine h_214_16 (nm_M_L hM1) ⟨fun _ => ⟨by omega, nmm_150 (by omega) (nm_M_L hM1) hM1.1.2.1 hM1.1.2.2.1 hM1.2.2.1 (fun M2 F2 U2 => ?_)⟩, fun h => absurd h (by decide)⟩
      have hL2 := nm_Lay_fr (nm_M_L hM1) F2 (by decide +kernel)
      have W2 := nm_MW_kp hM1.1.2.2.1 (fun i => nm_gt_frn F2 (nm_M_L hM1) (by decide) (by decide +kernel))
      refine h_214_27 hL2 ⟨by omega, nmm_213 hL2 W2 h6 (fun M3 F3 W3 => ?_)⟩
      have hL3 := nm_Lay_fr hL2 F3 (by decide +kernel)
      have F03 : nm_Fr nm_chM M M3 := nm_Fr_trans (nm_Fr_trans (nm_Fr_sub F1 (by decide +kernel)) (nm_Fr_sub F2 (by decide +kernel))) (nm_Fr_sub F3 (by decide +kernel))
      refine h_214_32 hL3 ?_
      have e8 : am_gt M3 216 8 = (((nx_W X).2.1 ++ [m]).length : Int) := W3.2.1
      rw [e8, List.length_append, List.length_singleton, am_w_id (by omega) (by omega), show (((nx_W X).2.1.length + 1 : Nat) : Int) - 1 = ((nx_W X).2.1.length : Int) by omega]
      refine hQ M3 F03 ?_
      have eW : nm_chW (nx_S X) (nx_W X) (nm_lwf (nx_S X) (nx_D X)) 0 m b = nm_hangW (nx_W X) m := by unfold nm_chW; rw [if_pos rfl]
      rw [eW]
      exact nm_M_ch hok hM F03 W3 (nm_MU_fr U2 hL2 F3 (by decide +kernel) (by decide +kernel) (by decide +kernel))
    · rw [e, if_pos (by decide)] at hQ
      have hM1 := nm_M_tg hok hM F1
      exact h_214_16 (nm_M_L hM1) ⟨fun h => absurd rfl h, fun _ => hQ M1 (nm_Fr_sub F1 (by decide +kernel)) hM1⟩
  · have e : nm_hangR (nx_S X) (nx_W X) (nm_lwf (nx_S X) (nx_D X)) m = -2 := by unfold nm_hangR; rw [if_pos a0]
    rw [e, if_pos (by decide)] at hQ
    exact h_214_5 hL ⟨fun h => absurd rfl h, fun _ => hQ M (nm_Fg_refl _ _) hM⟩
/-- down -/
theorem nmm_217 {d : Nat} {m b : Int} {X : nm_X} {M : am_M} {Q : List am_V → am_M → Prop} (hd : 9 ≤ d) (hM : nm_M M X) (hok : nm_ok X) (hQ : ∀ M', nm_Fr nm_chM M M' → nm_M M' (nm_ch X 1 m b).1 → Q [(0, (nm_ch X 1 m b).2)] M') : am_CL d 217 [(2, 214), (0, m)] M Q := by
  have oW : nm_okW (nx_S X 0) (nx_W X) := hok.1.2.2.1
  have hL := nm_M_L hM
  have hM1 := hM
  obtain ⟨m1, m2, m3, m4, m5, m6⟩ := hM1
  obtain ⟨a1, hS, hW, hO, hX, a6⟩ := m1
  have eA : nm_chA (nx_S X) (nx_W X) (nm_lwf (nx_S X) (nx_D X)) 1 m b = if m < 0 ∨ nx_S X 0 ≤ m then -2 else if nm_ix (nx_W X).2.1 m = -1 then -3 else nm_ix (nx_W X).2.1 m := by unfold nm_chA; rw [if_neg (by decide), if_pos rfl]
  unfold nm_ch at hQ
  rw [eA] at hQ
  refine h_217_0 hL ⟨by omega, nmm_154 (by omega) hL hS hO (fun a0 a1 => ?_) (fun a0 => ?_)⟩
  · refine h_217_5 hL ⟨fun _ => ⟨by omega, nm_m157 hL hW oW.2.2.1 (h_217_16 hL ⟨fun hx => ⟨by omega, ?_⟩, fun hx => ?_⟩)⟩, fun h => absurd h (by decide)⟩
    · rcases nm_ix_cases (nx_W X).2.1 m with ⟨e, -⟩ | ⟨k, hk, hkm, e⟩
      · exact absurd e hx
      rw [if_neg (show ¬ (m < 0 ∨ nx_S X 0 ≤ m) by omega), if_neg hx, e, if_neg (by omega)] at hQ
      rw [e]
      refine nmm_150 (by omega) hL hS hW m3 (fun M2 F2 U2 => ?_)
      have hL2 := nm_Lay_fr hL F2 (by decide +kernel)
      have W2 := nm_MW_kp hW (fun i => nm_gt_frn F2 hL (by decide) (by decide +kernel))
      refine h_217_30 hL2 ⟨by omega, nmm_216 hL2 W2 hk (fun M3 F3 W3 => ?_)⟩
      have hL3 := nm_Lay_fr hL2 F3 (by decide +kernel)
      have F03 : nm_Fr nm_chM M M3 := nm_Fr_trans (nm_Fr_sub F2 (by decide +kernel)) (nm_Fr_sub F3 (by decide +kernel))
      refine h_217_35 hL3 (hQ M3 F03 ?_)
      have eW : nm_chW (nx_S X) (nx_W X) (nm_lwf (nx_S X) (nx_D X)) 1 m b = nm_downW (nx_W X) k := by unfold nm_chW; rw [if_neg (by decide), if_pos rfl, e]; rfl
      rw [eW]
      exact nm_M_ch hok hM F03 W3 (nm_MU_fr U2 hL2 F3 (by decide +kernel) (by decide +kernel) (by decide +kernel))
    · rw [if_neg (show ¬ (m < 0 ∨ nx_S X 0 ≤ m) by omega), if_pos (show nm_ix (nx_W X).2.1 m = -1 by omega), if_pos (by decide)] at hQ
      exact hQ M (nm_Fg_refl _ _) hM
  · rw [if_pos a0, if_pos (by decide)] at hQ
    exact h_217_5 hL ⟨fun h => absurd rfl h, fun _ => hQ M (nm_Fg_refl _ _) hM⟩
/-- polish -/
theorem nmm_219 {d : Nat} {m b : Int} {X : nm_X} {M : am_M} {Q : List am_V → am_M → Prop} (hd : 9 ≤ d) (hM : nm_M M X) (hok : nm_ok X) (hQ : ∀ M', nm_Fr nm_chM M M' → nm_M M' (nm_ch X 2 m b).1 → Q [(0, (nm_ch X 2 m b).2)] M') : am_CL d 219 [(2, 214), (0, m), (0, b)] M Q := by
  have oW : nm_okW (nx_S X 0) (nx_W X) := hok.1.2.2.1
  have hL := nm_M_L hM
  have hM1 := hM
  obtain ⟨m1, m2, m3, m4, m5, m6⟩ := hM1
  obtain ⟨a1, hS, hW, hO, hX, a6⟩ := m1
  have o0 := hO.1
  have eA : nm_chA (nx_S X) (nx_W X) (nm_lwf (nx_S X) (nx_D X)) 2 m b = if b < 1 ∨ 30 < b then -1 else if m < 0 ∨ nx_S X 0 ≤ m then -2 else if (nx_W X).2.2.2 0 = 0 then -3 else min 30 ((nx_W X).2.2.1 m + b) := by unfold nm_chA; rw [if_neg (by decide), if_neg (by decide), if_pos rfl]
  unfold nm_ch at hQ
  rw [eA] at hQ
  refine h_219_0 hL ⟨by omega, nmm_142 hL (fun b0 b1 => ?_) (fun b0 => ?_)⟩
  · rw [if_neg (show ¬ (b < 1 ∨ 30 < b) by omega)] at hQ
    refine h_219_9 hL ⟨fun _ => ⟨by omega, nmm_154 (by omega) hL hS hO (fun a0 a1 => ?_) (fun a0 => ?_)⟩, fun h => absurd h (by decide)⟩
    · rw [if_neg (show ¬ (m < 0 ∨ nx_S X 0 ≤ m) by omega)] at hQ
      have g21 : am_gt M 216 21 = (nx_W X).2.2.2 0 := hW.2.2.2.2.2 0 (by decide) (by decide)
      have bs := oW.2.2.2.2.1 m a0 (by omega)
      have bt := oW.2.2.2.2.2 0 (by decide) (by decide)
      refine h_219_19 hL ⟨fun _ => ?_, fun h => absurd h (by decide)⟩
      rw [g21]
      refine ⟨fun z => ⟨by omega, nmm_150 (by omega) hL hS hW m3 (fun M2 F2 U2 => ?_)⟩, fun z => ?_⟩
      · rw [if_neg z, if_neg (by omega)] at hQ
        have hL2 := nm_Lay_fr hL F2 (by decide +kernel)
        have W2 := nm_MW_kp hW (fun i => nm_gt_frn F2 hL (by decide) (by decide +kernel))
        have g21' : am_gt M2 216 21 = (nx_W X).2.2.2 0 := W2.2.2.2.2.2 0 (by decide) (by decide)
        refine h_219_43 hL2 ?_
        rw [g21', am_w_id (x := _ - 1) (by omega) (by omega), am_w_id (x := 15 + m) (by omega) (by omega), nm_st_nj (by omega), W2.2.2.2.2.1 m a0 (by omega), am_w_id (x := _ + b) (by omega) (by omega)]
        have F3 : nm_Fr nm_wgM M2 (am_st M2 216 21 ((nx_W X).2.2.2 0 - 1)) := nm_Fr_st (nm_Fg_refl _ _) (by decide)
        have W3 := nm_MW_t (m := 0) (v := (nx_W X).2.2.2 0 - 1) W2 (by decide) (by decide)
        have hL3 := nm_Lay_fr hL2 F3 (by decide +kernel)
        refine ⟨by omega, by omega, by omega, nm_m144 hL3 (by decide) (by decide) ?_⟩
        have ec : nm_cut ((nx_W X).2.2.1 m + b) 0 30 = min 30 ((nx_W X).2.2.1 m + b) := by
          unfold nm_cut; rw [if_neg (by omega)]
          by_cases h1 : 30 < (nx_W X).2.2.1 m + b
          · rw [if_pos h1]; omega
          · rw [if_neg h1]; omega
        rw [ec]
        refine h_219_80 hL3 ?_
        rw [am_w_id (x := 15 + m) (by omega) (by omega), nm_st_eq]
        have F4 : nm_Fr nm_wgM M2 (am_st (am_st M2 216 21 ((nx_W X).2.2.2 0 - 1)) 216 (15 + m) (min 30 ((nx_W X).2.2.1 m + b))) := nm_Fr_st F3 (nm_in_c (lo := 8) (hi := 29) (by decide) (by omega) (by omega))
        have W4 := nm_MW_s (m := m) (v := min 30 ((nx_W X).2.2.1 m + b)) W3 a0 (by omega)
        have F04 : nm_Fr nm_chM M (am_st (am_st M2 216 21 ((nx_W X).2.2.2 0 - 1)) 216 (15 + m) (min 30 ((nx_W X).2.2.1 m + b))) := nm_Fr_trans (nm_Fr_sub F2 (by decide +kernel)) (nm_Fr_sub F4 (by decide +kernel))
        refine ⟨by omega, by omega, by omega, by omega, hQ _ F04 ?_⟩
        have eW : nm_chW (nx_S X) (nx_W X) (nm_lwf (nx_S X) (nx_D X)) 2 m b = ((nx_W X).1, (nx_W X).2.1, nm_up (nx_W X).2.2.1 m (min 30 ((nx_W X).2.2.1 m + b)), nm_up (nx_W X).2.2.2 0 ((nx_W X).2.2.2 0 - 1)) := by unfold nm_chW; rw [if_neg (by decide), if_neg (by decide), if_pos rfl]
        rw [eW]
        exact nm_M_ch hok hM F04 W4 (nm_MU_fr U2 hL2 F4 (by decide +kernel) (by decide +kernel) (by decide +kernel))
      · rw [if_pos (show (nx_W X).2.2.2 0 = 0 by omega), if_pos (by decide)] at hQ
        exact hQ M (nm_Fg_refl _ _) hM
    · rw [if_pos a0, if_pos (by decide)] at hQ
      exact h_219_19 hL ⟨fun h => absurd rfl h, fun _ => hQ M (nm_Fg_refl _ _) hM⟩
  · rw [if_pos (show b < 1 ∨ 30 < b by omega), if_pos (by decide)] at hQ
    exact h_219_9 hL ⟨fun h => absurd rfl h, fun _ => hQ M (nm_Fg_refl _ _) hM⟩
/-- pass -/
theorem nmm_224 {d : Nat} {m b : Int} {X : nm_X} {M : am_M} {Q : List am_V → am_M → Prop} (hd : 11 ≤ d) (hM : nm_M M X) (hok : nm_ok X) (hQ : ∀ M', nm_Fr nm_chM M M' → nm_M M' (nm_ch X 3 m b).1 → Q [(0, (nm_ch X 3 m b).2)] M') : am_CL d 224 [(2, 214)] M Q := by
  have oW : nm_okW (nx_S X 0) (nx_W X) := hok.1.2.2.1
  have hn9 : (nx_W X).1 ≤ 999 := hok.1.2.2.2
  have hL := nm_M_L hM
  have hM1 := hM
  obtain ⟨m1, m2, m3, m4, m5, m6⟩ := hM1
  have m1' := m1
  obtain ⟨a1, hS, hW, hO, hX, a6⟩ := m1
  have eA : nm_chA (nx_S X) (nx_W X) (nm_lwf (nx_S X) (nx_D X)) 3 m b = if 999 ≤ (nx_W X).1 then -3 else ((nm_all (nx_S X) (nx_W X) (nm_lwf (nx_S X) (nx_D X)) (nx_S X 7)).length : Int) := by unfold nm_chA; rw [if_neg (by decide), if_neg (by decide), if_neg (by decide)]
  unfold nm_ch at hQ
  rw [eA] at hQ
  refine h_224_0 hL ?_
  rw [hW.1]
  refine ⟨fun h => ⟨by omega, nmm_150 (by omega) hL hS hW m3 (fun M2 F2 U2 => ?_)⟩, fun h => ?_⟩
  · rw [if_neg (show ¬ 999 ≤ (nx_W X).1 by omega), if_neg (by omega)] at hQ
    have hA2 := nm_MA_fr m1' F2 (by decide +kernel) (by decide +kernel) (by decide +kernel)
    refine h_224_20 hA2.1 ⟨by omega, nmm_223 (by omega) hA2 oW (fun M3 F3 W3 => ?_)⟩
    have F03 : nm_Fr nm_chM M M3 := nm_Fr_trans (nm_Fr_sub F2 (by decide +kernel)) (nm_Fr_appr F3)
    refine h_224_24 (nm_Lay_fr hL F03 (by decide +kernel)) (hQ M3 F03 ?_)
    have eW : nm_chW (nx_S X) (nx_W X) (nm_lwf (nx_S X) (nx_D X)) 3 m b = nm_pass (nx_S X) (nm_lwf (nx_S X) (nx_D X)) (nx_W X) := by unfold nm_chW; rw [if_neg (by decide), if_neg (by decide), if_neg (by decide)]
    rw [eW]
    exact nm_M_ch hok hM F03 W3 (nm_MU_fr U2 hA2.1 F3 (by decide +kernel) (by decide +kernel) (by decide +kernel))
  · rw [if_pos (show 999 ≤ (nx_W X).1 by omega), if_pos (by decide)] at hQ
    exact hQ M (nm_Fg_refl _ _) hM
/-- an answer told -/
theorem nm_M_tell {M M' : am_M} {X X0 : nm_X} {a : Int} (hok : nm_ok X0) (eI : nx_I X = nx_I X0) (eK : nx_K X = nx_K X0) (hv : 0 ≤ a ∨ a = -1 ∨ a = -2 ∨ a = -3 ∨ a = -5 ∨ a = -6) (hM : nm_M M X) (F : nm_Fr nm_Mf M M') (r : nm_MR M' (nm_tl1 (nx_R X) a)) : nm_M M' (nx_tl X a) := by
  have hL := nm_M_L hM
  have hM1 := hM
  obtain ⟨m1, m2, m3, m4, m5, m6⟩ := hM1
  exact ⟨nm_MA_fr m1 F (by decide +kernel) (by decide +kernel) (by decide +kernel), fun k a b => ⟨(nm_gt_frn F hL (by decide) (by decide +kernel)).trans (m2 k a b).1, fun e => nm_MI_fr (by have e1 : nx_K X k = 1 := e; rw [eK] at e1; show (nx_I X k).1 2 ≤ 6; rw [eI]; exact nm_ok_I hok a b e1) ((m2 k a b).2 e) hL F (by decide +kernel)⟩, nm_MU_fr m3 hL F (by decide +kernel) (by decide +kernel) (by decide +kernel), nm_MP_fr m4 hL F (by decide +kernel) (by decide +kernel), r, (show nm_MY M' (nm_tl1 (nx_R X) a 10) (nx_Y X) by rw [nm_tl10 hv]; exact nm_MY_fr m6 hL F (by decide +kernel))⟩
theorem nmq_18 {d : Nat} {m : Int} {X : nm_X} {M : am_M} {Q : List am_V → am_M → Prop} (hd : 13 ≤ d) (hok : nm_ok X) (hM : nm_M M X) (hQ : nm_KM (sp_ch X 0 m 0).1 [(0, (sp_ch X 0 m 0).2)] M Q) : am_CL d 215 [(2, 214), (0, m)] M Q := by
  have eI : nx_I (nm_ch X 0 m 0).1 = nx_I X ∧ nx_K (nm_ch X 0 m 0).1 = nx_K X := by unfold nm_ch; split <;> exact ⟨rfl, rfl⟩
  refine h_215_0 (nm_M_L hM) ⟨by omega, nmm_214 (b := 0) (m := m) (by omega) (nm_m0 hok hM) hok (fun M1 F1 C1 => h_215_11 (nm_M_L C1) ⟨by omega, nmm_145 (nm_ch_in hok _ _ _) (nm_M_L C1) C1.2.2.2.2.1 (fun M2 F2 r2 => ?_)⟩)⟩
  have C2 := nm_M_tell hok eI.1 eI.2 (nm_ch_in hok _ _ _) C1 F2 r2
  exact h_215_14 (nm_M_L C2) (hQ M2 (nm_Fr_trans nm_m0F (nm_Fr_trans (nm_mF F1 (by decide +kernel)) (nm_mF F2 (by decide +kernel)))) C2)
theorem nmq_19 {d : Nat} {m : Int} {X : nm_X} {M : am_M} {Q : List am_V → am_M → Prop} (hd : 13 ≤ d) (hok : nm_ok X) (hM : nm_M M X) (hQ : nm_KM (sp_ch X 1 m 0).1 [(0, (sp_ch X 1 m 0).2)] M Q) : am_CL d 218 [(2, 214), (0, m)] M Q := by
  have eI : nx_I (nm_ch X 1 m 0).1 = nx_I X ∧ nx_K (nm_ch X 1 m 0).1 = nx_K X := by unfold nm_ch; split <;> exact ⟨rfl, rfl⟩
  refine h_218_0 (nm_M_L hM) ⟨by omega, nmm_217 (b := 0) (m := m) (by omega) (nm_m0 hok hM) hok (fun M1 F1 C1 => h_218_11 (nm_M_L C1) ⟨by omega, nmm_145 (nm_ch_in hok _ _ _) (nm_M_L C1) C1.2.2.2.2.1 (fun M2 F2 r2 => ?_)⟩)⟩
  have C2 := nm_M_tell hok eI.1 eI.2 (nm_ch_in hok _ _ _) C1 F2 r2
  exact h_218_14 (nm_M_L C2) (hQ M2 (nm_Fr_trans nm_m0F (nm_Fr_trans (nm_mF F1 (by decide +kernel)) (nm_mF F2 (by decide +kernel)))) C2)
theorem nmq_20 {d : Nat} {m b : Int} {X : nm_X} {M : am_M} {Q : List am_V → am_M → Prop} (hd : 13 ≤ d) (hok : nm_ok X) (hM : nm_M M X) (hQ : nm_KM (sp_ch X 2 m b).1 [(0, (sp_ch X 2 m b).2)] M Q) : am_CL d 220 [(2, 214), (0, m), (0, b)] M Q := by
  have eI : nx_I (nm_ch X 2 m b).1 = nx_I X ∧ nx_K (nm_ch X 2 m b).1 = nx_K X := by unfold nm_ch; split <;> exact ⟨rfl, rfl⟩
  refine h_220_0 (nm_M_L hM) ⟨by omega, nmm_219 (b := b) (m := m) (by omega) (nm_m0 hok hM) hok (fun M1 F1 C1 => h_220_12 (nm_M_L C1) ⟨by omega, nmm_145 (nm_ch_in hok _ _ _) (nm_M_L C1) C1.2.2.2.2.1 (fun M2 F2 r2 => ?_)⟩)⟩
  have C2 := nm_M_tell hok eI.1 eI.2 (nm_ch_in hok _ _ _) C1 F2 r2
  exact h_220_15 (nm_M_L C2) (hQ M2 (nm_Fr_trans nm_m0F (nm_Fr_trans (nm_mF F1 (by decide +kernel)) (nm_mF F2 (by decide +kernel)))) C2)
theorem nmq_21 {d : Nat} {X : nm_X} {M : am_M} {Q : List am_V → am_M → Prop} (hd : 13 ≤ d) (hok : nm_ok X) (hM : nm_M M X) (hQ : nm_KM (sp_ch X 3 (-1) 0).1 [(0, (sp_ch X 3 (-1) 0).2)] M Q) : am_CL d 225 [(2, 214)] M Q := by
  have eI : nx_I (nm_ch X 3 (-1) 0).1 = nx_I X ∧ nx_K (nm_ch X 3 (-1) 0).1 = nx_K X := by unfold nm_ch; split <;> exact ⟨rfl, rfl⟩
  refine h_225_0 (nm_M_L hM) ⟨by omega, nmm_224 (b := 0) (m := (-1)) (by omega) (nm_m0 hok hM) hok (fun M1 F1 C1 => h_225_10 (nm_M_L C1) ⟨by omega, nmm_145 (nm_ch_in hok _ _ _) (nm_M_L C1) C1.2.2.2.2.1 (fun M2 F2 r2 => ?_)⟩)⟩
  have C2 := nm_M_tell hok eI.1 eI.2 (nm_ch_in hok _ _ _) C1 F2 r2
  exact h_225_13 (nm_M_L C2) (hQ M2 (nm_Fr_trans nm_m0F (nm_Fr_trans (nm_mF F1 (by decide +kernel)) (nm_mF F2 (by decide +kernel)))) C2)
