/-! WORKS OF THE CLASS -/
theorem nmc_137 {d : Nat} {w m : Int} {W : nm_W} {M : am_M} {Q : List am_V → am_M → Prop} (hL : nm_Lay M) (hw : w ∈ nm_WL) (hW : nm_CW M w W) (hQ : Q [(0, nm_ix W.2.1 m)] M) : am_CL d 137 [(2, w), (0, m)] M Q := by
  obtain ⟨h1, h2, h3, h4, h5, h6⟩ := hW
  refine h_137_0 hL hw ?_
  have key : ∀ k, k ≤ W.2.1.length → (∀ j, j < k → W.2.1.getD j 0 ≠ m) → am_WP d am_c137 2 [(2, w), (0, m), (0, (k : Int))] [] M Q := by
    refine nm_dn ?_
    intro k hk ih hj
    refine h_137_2 hL hw ⟨fun h => ?_, fun h => ⟨by omega, by omega, fun hne => ?_, fun hne => ?_⟩⟩
    · rw [nm_ix_none (fun j hj' => hj j (by omega))] at hQ; exact hQ
    · rw [nm_wk (by omega)]
      refine ih (by omega) (fun j hj' => ?_)
      by_cases hjk : j = k
      · subst hjk; rw [← h4 j (by omega)]; exact hne
      · exact hj j (by omega)
    · rw [nm_ix_some (k := k) (by omega) (by rw [← h4 k (by omega)]; omega) hj] at hQ
      exact hQ
  exact key 0 (Nat.zero_le _) (fun j hj => absurd hj (by omega))
theorem nmc_136 {d : Nat} {w v : Int} {W : nm_W} {M : am_M} {Q : List am_V → am_M → Prop} (hd : 1 ≤ d) (hL : nm_Lay M) (hw : w ∈ nm_WL) (hv : v ∈ nm_WL) (hne : w ≠ v) (hW : nm_CW M v W) (hQ : ∀ M', nm_Fr (nm_Wg w) M M' → nm_CW M' w W → Q [] M') : am_CL d 136 [(2, w), (2, v)] M Q := by
  obtain ⟨h1, h2, h3, h4, h5, h6⟩ := hW
  have e1 : (v = w) = False := eq_false (fun h => hne h.symm)
  refine h_136_0 hL hw hv ?_
  have F1 : nm_Fr (nm_Wg w) M (am_st M w 0 (am_gt M v 0)) := nm_Fr_st (nm_Fg_refl _ _) (nm_g0 (by decide) (by decide))
  refine h_136_8 (nm_LayW hL hw F1) hw hv ?_
  have F2 := nm_Fr_st (v := am_gt (am_st M w 0 (am_gt M v 0)) v 1) F1 (nm_g0 (i := 1) (by decide) (by decide))
  refine h_136_16 (nm_LayW hL hw F2) hw hv ⟨hd, ?_⟩
  have F3 := nm_Fr_cp (a := v + 1) (i := 0) (b := w + 1) (j := 0) (m := 6) F2 (fun k a b => nm_g1 a (by omega))
  refine h_136_31 (nm_LayW hL hw F3) hw hv ⟨hd, ?_⟩
  have F4 := nm_Fr_cp (a := v + 2) (i := 0) (b := w + 2) (j := 0) (m := 6) F3 (fun k a b => nm_g2 a (by omega))
  have F5 := nm_Fr_cp (a := v + 3) (i := 0) (b := w + 3) (j := 0) (m := 8) F4 (fun k a b => nm_g3 a (by omega))
  have o := nm_Wpair 0 0
  refine hQ _ F5 ⟨?_, ?_, h3, fun p hp => ?_, fun m a b => ?_, fun p a b => ?_⟩
  · simp only [nm_gt_cp, nm_gt_st, nm_vv01, nm_vv02, nm_vv03, false_and, if_false, Int.reduceEq, and_false, and_self, if_true]; exact h1
  · simp only [nm_gt_cp, nm_gt_st, nm_vv01, nm_vv02, nm_vv03, e1, false_and, if_false, Int.reduceEq, and_false, and_self, if_true]; exact h2
  · simp only [nm_gt_cp, nm_gt_st, nm_vv12, nm_vv13, nm_vv10, nm_ww10 hv hw, true_and, false_and, if_false]
    rw [if_pos (by omega), show ((p : Int) - 0 + 0) = (p : Int) by omega]; exact h4 p hp
  · simp only [nm_gt_cp, nm_gt_st, nm_vv21, nm_vv23, nm_vv20, nm_ww21 hv hw, nm_ww20 hv hw, true_and, false_and, if_false]
    rw [if_pos (by omega), show (m - 0 + 0) = m by omega]; exact h5 m a b
  · simp only [nm_gt_cp, nm_gt_st, nm_vv31, nm_vv32, nm_vv30, nm_ww31 hv hw, nm_ww32 hv hw, nm_ww30 hv hw, true_and, false_and, if_false]
    rw [if_pos (by omega), show (p - 0 + 0) = p by omega]; exact h6 p a b
theorem nmc_138 {d : Nat} {w m : Int} {W : nm_W} {M : am_M} {Q : List am_V → am_M → Prop} (hd : 1 ≤ d) (hL : nm_Lay M) (hw : w ∈ nm_WL) (hW : nm_CW M w W) (hno : nm_ix W.2.1 m = -1 → Q [(0, -3)] M) (hQ : ∀ (k : Nat) M', k < W.2.1.length → nm_ix W.2.1 m = (k : Int) → nm_Fr (nm_Wg w) M M' → nm_CW M' w (nm_downW W k) → Q [(0, (k : Int))] M') : am_CL d 138 [(2, w), (0, m)] M Q := by
  refine h_138_0 hL hw ⟨by omega, nmc_137 hL hw hW ?_⟩
  refine h_138_5 hL hw ⟨fun h => ?_, fun h => hno (by omega)⟩
  rcases nm_ix_cases W.2.1 m with ⟨e, -⟩ | ⟨k, hk, hkm, e⟩
  · exact absurd e h
  rw [e]
  obtain ⟨h1, h2, h3, h4, h5, h6⟩ := hW
  have key : ∀ j, j ≤ W.2.1.length - 1 → ∀ M1, k ≤ j → nm_Fr (nm_Wg w) M M1 → am_gt M1 w 0 = W.1 → am_gt M1 w 1 = (W.2.1.length : Int) → (∀ p : Nat, p < W.2.1.length → am_gt M1 (w + 1) (p : Int) = if k ≤ p ∧ p < j then W.2.1.getD (p + 1) 0 else W.2.1.getD p 0) → (∀ q i, q = w + 2 ∨ q = w + 3 → am_gt M1 q i = am_gt M q i) → am_WP d am_c138 16 [(2, w), (0, m), (0, (k : Int)), (0, (j : Int))] [] M1 Q := by
    refine nm_dn ?_
    intro j hj ih M1 hkj F a0 a1 a2 a3
    have hL1 := nm_LayW hL hw F
    refine h_138_16 hL1 hw ⟨fun h => ?_, fun h => ?_⟩
    · rw [am_w_id (by omega) (by omega)] at h
      have hlen : (nm_downW W k).2.1.length = W.2.1.length - 1 := by
        show (W.2.1.eraseIdx k).length = _
        rw [List.length_eraseIdx, if_pos hk]
      refine hQ k _ hk e (nm_Fr_st F (nm_g0 (by decide) (by decide))) ⟨?_, ?_, ?_, fun p hp => ?_, fun q b c => ?_, fun q b c => ?_⟩
      · simp only [nm_gt_st, Int.reduceEq, and_false, if_false]; exact a0
      · simp only [nm_gt_st, and_self, if_true]; rw [hlen, a1, am_w_id (by omega) (by omega)]; omega
      · omega
      · simp only [nm_gt_st, nm_vv10, false_and, if_false]
        rw [a2 p (by omega)]
        show _ = (W.2.1.eraseIdx k).getD p 0
        rw [nm_erase]
        by_cases hpk : p < k
        · rw [if_neg (by omega), if_pos hpk]
        · rw [if_pos (by omega), if_neg hpk]
      · simp only [nm_gt_st, nm_vv20, false_and, if_false]; rw [a3 _ _ (.inl rfl)]; exact h5 q b c
      · simp only [nm_gt_st, nm_vv30, false_and, if_false]; rw [a3 _ _ (.inr rfl)]; exact h6 q b c
    · rw [nm_wk (by omega)] at h ⊢
      refine ⟨by omega, by omega, by omega, by omega, ih (by omega) _ (by omega) (nm_Fr_st F (nm_g1 (by omega) (by omega))) ?_ ?_ (fun p hp => ?_) (fun q i hq => ?_)⟩
      · simp only [nm_gt_st, nm_vv01, false_and, if_false]; exact a0
      · simp only [nm_gt_st, nm_vv01, false_and, if_false]; exact a1
      · simp only [nm_gt_st, true_and]
        by_cases hpj : p = j
        · subst hpj; rw [if_pos rfl, if_pos (by omega), a2 (p + 1) (by omega), if_neg (by omega)]
        · rw [if_neg (by omega), a2 p hp]
          by_cases hc : k ≤ p ∧ p < j
          · rw [if_pos hc, if_pos (by omega)]
          · rw [if_neg hc, if_neg (by omega)]
      · rw [nm_gt_st, if_neg (by omega)]; exact a3 q i hq
  exact key k (by omega) M (Nat.le_refl _) (nm_Fg_refl _ _) h1 h2 (fun p hp => by rw [if_neg (by omega)]; exact h4 p hp) (fun _ _ _ => rfl)
theorem nmc_139 {d : Nat} {w : Int} {W : nm_W} {M : am_M} {Q : List am_V → am_M → Prop} (hL : nm_Lay M) (hw : w ∈ nm_WL) (hW : nm_CW M w W) (hm : ∀ m ∈ W.2.1, 0 ≤ m ∧ m < 6) (hQ : ∀ M', nm_Fr (nm_Wg w) M M' → nm_CW M' w (W.1, W.2.1.filter (fun m => decide (0 < W.2.2.1 m)), W.2.2) → Q [] M') : am_CL d 139 [(2, w)] M Q := by
  obtain ⟨h1, h2, h3, h4, h5, h6⟩ := hW
  refine h_139_0 hL hw ?_
  have key : ∀ k, k ≤ W.2.1.length → ∀ M1, nm_Fr (nm_Wg w) M M1 → am_gt M1 w 0 = W.1 → am_gt M1 w 1 = (W.2.1.length : Int) → (∀ p : Nat, p < ((W.2.1.take k).filter (fun m => decide (0 < W.2.2.1 m))).length → am_gt M1 (w + 1) (p : Int) = ((W.2.1.take k).filter (fun m => decide (0 < W.2.2.1 m))).getD p 0) → (∀ p : Nat, k ≤ p → p < W.2.1.length → am_gt M1 (w + 1) (p : Int) = W.2.1.getD p 0) → (∀ q i, q = w + 2 ∨ q = w + 3 → am_gt M1 q i = am_gt M q i) → am_WP d am_c139 4 [(2, w), (0, (((W.2.1.take k).filter (fun m => decide (0 < W.2.2.1 m))).length : Int)), (0, (k : Int))] [] M1 Q := by
    refine nm_dn ?_
    intro k hk ih M1 F a0 a1 a2 a3 a4
    have hL1 := nm_LayW hL hw F
    have hfl : ((W.2.1.take k).filter (fun m => decide (0 < W.2.2.1 m))).length ≤ k := Nat.le_trans (List.length_filter_le _ _) (by rw [List.length_take]; omega)
    refine h_139_4 hL1 hw ⟨fun h => ?_, fun h => ?_⟩
    · have hke : W.2.1.take k = W.2.1 := List.take_of_length_le (by omega)
      rw [hke] at a2 hfl ⊢
      refine hQ _ (nm_Fr_st F (nm_g0 (by decide) (by decide))) ⟨?_, ?_, ?_, fun p hp => ?_, fun q b c => ?_, fun q b c => ?_⟩
      · simp only [nm_gt_st, Int.reduceEq, and_false, if_false]; exact a0
      · simp only [nm_gt_st, and_self, if_true]
      · show (W.2.1.filter _).length ≤ 6; omega
      · simp only [nm_gt_st, nm_vv10, false_and, if_false]; exact a2 p hp
      · simp only [nm_gt_st, nm_vv20, false_and, if_false]; rw [a4 _ _ (.inl rfl)]; exact h5 q b c
      · simp only [nm_gt_st, nm_vv30, false_and, if_false]; rw [a4 _ _ (.inr rfl)]; exact h6 q b c
    · have hkl : k < W.2.1.length := by omega
      have hv : am_gt M1 (w + 1) (k : Int) = W.2.1.getD k 0 := a3 k (Nat.le_refl _) hkl
      have hmb := hm _ (nm_getD_mem hkl)
      have hs : am_gt M1 (w + 2) (W.2.1.getD k 0) = W.2.2.1 (W.2.1.getD k 0) := by rw [a4 _ _ (.inl rfl)]; exact h5 _ hmb.1 hmb.2
      rw [hv, hs]
      refine ⟨by omega, by omega, hmb.1, hmb.2, fun hz => ?_, fun hz => ?_⟩
      · have he : (W.2.1.take (k + 1)).filter (fun m => decide (0 < W.2.2.1 m)) = (W.2.1.take k).filter (fun m => decide (0 < W.2.2.1 m)) := by
          rw [nm_take1 hkl, List.filter_append, List.filter_cons_of_neg (by simp only [decide_eq_true_eq]; omega), List.filter_nil, List.append_nil]
        have := ih (by omega) M1 F a0 a1 (by rw [he]; exact a2) (fun p hp => a3 p (by omega)) a4
        rw [he] at this
        rw [nm_wk (by omega)]
        exact this
      · have he : (W.2.1.take (k + 1)).filter (fun m => decide (0 < W.2.2.1 m)) = (W.2.1.take k).filter (fun m => decide (0 < W.2.2.1 m)) ++ [W.2.1.getD k 0] := by
          rw [nm_take1 hkl, List.filter_append, List.filter_cons_of_pos (by simp only [decide_eq_true_eq]; omega), List.filter_nil]
        refine ⟨by omega, by omega, ?_⟩
        have := ih (by omega) (am_st M1 (w + 1) (((W.2.1.take k).filter (fun m => decide (0 < W.2.2.1 m))).length : Int) (W.2.1.getD k 0)) (nm_Fr_st F (nm_g1 (by omega) (by omega))) (by simp only [nm_gt_st, nm_vv01, false_and, if_false]; exact a0) (by simp only [nm_gt_st, nm_vv01, false_and, if_false]; exact a1) (fun p hp => by
          rw [he, List.length_append, List.length_singleton] at hp
          rw [he]
          simp only [nm_gt_st, true_and]
          by_cases hpl : p = ((W.2.1.take k).filter (fun m => decide (0 < W.2.2.1 m))).length
          · rw [if_pos (by omega), hpl, nm_getD_end]
          · rw [if_neg (by omega), a2 p (by omega), nm_getD_app (by omega)]) (fun p hp hp2 => by
          simp only [nm_gt_st, true_and]
          rw [if_neg (by omega)]; exact a3 p (by omega) hp2) (fun q i hq => by rw [nm_gt_st, if_neg (by omega)]; exact a4 q i hq)
        rw [he, List.length_append, List.length_singleton] at this
        rw [nm_wk (by omega), nm_wk (by omega)]
        exact this
  exact key 0 (Nat.zero_le _) M (nm_Fg_refl _ _) h1 h2 (fun p hp => absurd hp (by simp)) (fun p _ hp => h4 p hp) (fun _ _ _ => rfl)
theorem nmc_140 {d : Nat} {w : Int} {W : nm_W} {M : am_M} {Q : List am_V → am_M → Prop} (hL : nm_Lay M) (hw : w ∈ nm_WL) (hW : nm_CW M w W) (hb : ∀ p, 0 ≤ p → p < 8 → 0 ≤ W.2.2.2 p ∧ W.2.2.2 p ≤ 99) (hQ : Q [(0, nm_sm W.2.2.2 8)] M) : am_CL d 140 [(2, w)] M Q := by
  obtain ⟨h1, h2, h3, h4, h5, h6⟩ := hW
  refine h_140_0 hL hw ?_
  have key : ∀ k, k ≤ 8 → am_WP d am_c140 4 [(2, w), (0, nm_sm W.2.2.2 k), (0, (k : Int))] [] M Q := by
    refine nm_dn ?_
    intro k hk ih
    have hs := nm_sm_in (f := W.2.2.2) (b := 99) (n := k) (fun i hi => hb i (by omega) (by omega))
    refine h_140_4 hL hw ⟨fun h => ?_, fun h => ⟨by omega, by omega, ?_⟩⟩
    · have : k = 8 := by omega
      subst this; exact hQ
    · have := hb k (by omega) (by omega)
      rw [h6 k (by omega) (by omega), am_w_id (x := _ + _) (by omega) (by omega), nm_wk (by omega)]
      exact ih (by omega)
  exact key 0 (Nat.zero_le _)
