/-! THE ASKER OF THE CLASS: hanging, nights -/
/-- what hanging answers -/
def nm_hangR (S : Int → Int) (W : nm_W) (T : nm_T) (m : Int) : Int := if m < 0 ∨ S 0 ≤ m then -2 else if 6 ≤ (W.2.1.length : Int) ∨ W.2.2.1 m = 0 ∨ nm_ix W.2.1 m ≠ -1 ∨ nm_bar S W T m (W.2.1.length : Int) = true then -3 else (W.2.1.length : Int)
theorem nm_AWsub {w : Int} {M M' : am_M} (F : nm_Fr nm_Ag M M') : nm_Fr (nm_Ag ++ nm_Wg w) M M' := nm_Fr_appl F
theorem nm_inAW {w a i : Int} (h : nm_in (nm_Wg w) a i = true) : nm_in (nm_Ag ++ nm_Wg w) a i = true := by rw [nm_in_app, h, Bool.or_true]
theorem nmc_62 {d : Nat} {w m n : Int} {S : Int → Int} {D : Int → nm_T} {W : nm_W} {M : am_M} {Q : List am_V → am_M → Prop} (hd : 5 ≤ d) (hA : nm_CA M S D) (hw : w ∈ nm_WL) (hW : nm_CW M w W) (hoW : nm_okW n W) (hno : ∀ M', nm_hangR S W (nm_lwf S D) m < 0 → nm_Fr nm_Ag M M' → Q [(0, nm_hangR S W (nm_lwf S D) m)] M') (hQ : ∀ M', nm_hangR S W (nm_lwf S D) m = (W.2.1.length : Int) → (0 ≤ m ∧ m < S 0 ∧ m ∉ W.2.1 ∧ W.2.1.length < 6) → nm_Fr (nm_Ag ++ nm_Wg w) M M' → nm_CW M' w (nm_hangW W m) → Q [(0, (W.2.1.length : Int))] M') : am_CL d 62 [(2, 17), (2, w), (0, m)] M Q := by
  have hA0 := hA
  obtain ⟨hL, hS, hO, hX⟩ := hA
  have hW0 := hW
  obtain ⟨h1, h2, h3, h4, h5, h6⟩ := hW
  have s0 := nm_s0 hS
  have o0 := hO.1
  have R := nm_Fg_refl nm_Ag M
  refine h_62_0 hL hw ⟨fun h => ?_, fun hm => ⟨fun hm' => ⟨fun hl => ?_, fun hl => ⟨by omega, by omega, fun hz => ?_, fun hz => ⟨by omega, nmc_137 hL hw hW0 ?_⟩⟩⟩, fun h => ?_⟩⟩
  · have e : nm_hangR S W (nm_lwf S D) m = -2 := by unfold nm_hangR; rw [if_pos (.inl h)]
    have := hno M (by rw [e]; decide) R; rw [e] at this; exact this
  · have e : nm_hangR S W (nm_lwf S D) m = -3 := by unfold nm_hangR; rw [if_neg (by omega), if_pos (.inl (by omega))]
    have := hno M (by rw [e]; decide) R; rw [e] at this; exact this
  · have hz' : W.2.2.1 m = 0 := by rw [← h5 m (by omega) (by omega)]; exact hz
    have e : nm_hangR S W (nm_lwf S D) m = -3 := by unfold nm_hangR; rw [if_neg (by omega), if_pos (.inr (.inl hz'))]
    have := hno M (by rw [e]; decide) R; rw [e] at this; exact this
  · have hz' : W.2.2.1 m ≠ 0 := by rw [← h5 m (by omega) (by omega)]; exact hz
    rw [h2]
    refine h_62_43 hL hw ⟨fun hx => ?_, fun hx => ⟨by omega, nmc_61 (by omega) hA0 hw hW0 hoW (by omega) (by omega) (by omega) (fun M1 F1 => ?_)⟩⟩
    · have e : nm_hangR S W (nm_lwf S D) m = -3 := by unfold nm_hangR; rw [if_neg (by omega), if_pos (.inr (.inr (.inl hx)))]
      have := hno M (by rw [e]; decide) R; rw [e] at this; exact this
    · have hL1 := (nm_CA_Ag hA0 F1).1
      have hW1 := nm_CW_fr hW0 hL hw F1 (nm_AgW hw)
      obtain ⟨k1, k2, k3, k4, k5, k6⟩ := hW1
      refine h_62_54 hL1 hw ⟨fun hb => ⟨by omega, by omega, ?_⟩, fun hb => ?_⟩
      · have hb' : ¬ nm_bar S W (nm_lwf S D) m (W.2.1.length : Int) = true := by intro hc; rw [hc] at hb; exact absurd hb (by decide)
        have e : nm_hangR S W (nm_lwf S D) m = (W.2.1.length : Int) := by unfold nm_hangR; rw [if_neg (by omega), if_neg (fun hc => hc.elim (fun h => by omega) (fun hc => hc.elim hz' (fun hc => hc.elim hx hb')))]
        have hml : m ∉ W.2.1 := by
          rcases nm_ix_cases W.2.1 m with ⟨-, q⟩ | ⟨k, -, -, q⟩
          · exact q
          · omega
        rw [k2, am_w_id (x := (W.2.1.length : Int) + 1) (by omega) (by omega)]
        have F2 : nm_Fr (nm_Ag ++ nm_Wg w) M (am_st (am_st M1 (w + 1) (W.2.1.length : Int) m) w 1 ((W.2.1.length : Int) + 1)) :=
          nm_Fr_st (nm_Fr_st (nm_AWsub F1) (nm_inAW (nm_g1 (by omega) (by omega)))) (nm_inAW (nm_g0 (by decide) (by decide)))
        refine hQ _ e ⟨by omega, by omega, hml, by omega⟩ F2 ⟨?_, ?_, ?_, fun p hp => ?_, fun x a b => ?_, fun x a b => ?_⟩
        · simp only [nm_gt_st, nm_vv01, Int.reduceEq, and_false, false_and, if_false]; exact k1
        · simp only [nm_gt_st, and_self, if_true]; show _ = ((W.2.1 ++ [m]).length : Int); rw [List.length_append, List.length_singleton]; omega
        · show (W.2.1 ++ [m]).length ≤ 6; rw [List.length_append, List.length_singleton]; omega
        · have hp' : p < W.2.1.length + 1 := by have : p < (W.2.1 ++ [m]).length := hp; rw [List.length_append, List.length_singleton] at this; exact this
          show _ = (W.2.1 ++ [m]).getD p 0
          simp only [nm_gt_st, nm_vv10, false_and, if_false, true_and]
          by_cases hpl : p = W.2.1.length
          · rw [if_pos (by omega), hpl, nm_getD_end]
          · rw [if_neg (by omega), k4 p (by omega), nm_getD_app (by omega)]
        · simp only [nm_gt_st, nm_vv20, nm_vv21, false_and, if_false]; exact k5 x a b
        · simp only [nm_gt_st, nm_vv30, nm_vv31, false_and, if_false]; exact k6 x a b
      · have hb' : nm_bar S W (nm_lwf S D) m (W.2.1.length : Int) = true := by
          cases hc : nm_bar S W (nm_lwf S D) m (W.2.1.length : Int) with
          | true => rfl
          | false => rw [hc] at hb; exact absurd rfl hb
        have e : nm_hangR S W (nm_lwf S D) m = -3 := by unfold nm_hangR; rw [if_neg (by omega), if_pos (.inr (.inr (.inr hb')))]
        have := hno M1 (by rw [e]; decide) F1; rw [e] at this; exact this
  · have e : nm_hangR S W (nm_lwf S D) m = -2 := by unfold nm_hangR; rw [if_pos (.inr (by omega))]
    have := hno M (by rw [e]; decide) R; rw [e] at this; exact this
theorem nm_hs_succ (f : Int → Int) (lo : Int) (n : Nat) : nm_hs f lo (n + 1) = nm_hs f lo n ++ [f (lo + (n : Int))] := by
  unfold nm_hs; rw [List.range_succ, List.map_append]; rfl
theorem nm_hs_len (f : Int → Int) (lo : Int) (n : Nat) : (nm_hs f lo n).length = n := by unfold nm_hs; rw [List.length_map, List.length_range]
theorem nm_ps_succ (S : Int → Int) (W : nm_W) (T : nm_T) (H : Int) (n : Nat) : nm_ps S W T H (n + 1) = nm_ps S W T H n ++ nm_hs (fun h => nm_mk S W T (W.2.1.getD n 0) (n : Int) h) ((n : Int) + 1) (H - (n : Int)).toNat := by
  unfold nm_ps; rw [List.range_succ, List.flatMap_append, List.flatMap_singleton]
theorem nm_ps_len {S : Int → Int} {W : nm_W} {T : nm_T} {H : Int} (hH : H ≤ 8) : ∀ n : Nat, (nm_ps S W T H n).length ≤ 8 * n
  | 0 => Nat.le_refl _
  | n + 1 => by
    have := nm_ps_len (S := S) (W := W) (T := T) hH n
    rw [nm_ps_succ, List.length_append, nm_hs_len]
    omega
theorem nm_nodup_take {l : List Int} (hl : l.Nodup) {k : Nat} (hk : k < l.length) : l.getD k 0 ∉ l.take k := by
  intro hm
  have h := hl
  rw [← List.take_append_drop k l, List.nodup_append] at h
  refine h.2.2 _ hm (l.getD k 0) ?_ rfl
  rw [nm_getD hk, List.mem_iff_getElem]
  exact ⟨0, by rw [List.length_drop]; omega, by rw [List.getElem_drop]; rfl⟩
theorem nm_nodup_ix {l : List Int} (hl : l.Nodup) {k : Nat} (hk : k < l.length) : nm_ix l (l.getD k 0) = (k : Int) := by
  refine nm_ix_some hk rfl (fun j hj he => ?_)
  refine nm_nodup_take hl hk ?_
  rw [← he, nm_getD (by omega), List.mem_take_iff_getElem]
  exact ⟨j, by omega, rfl⟩
theorem nm_count1 (l : List Int) (a q : Int) : ((l ++ [a]).count q : Int) = (l.count q : Int) + if a = q then 1 else 0 := by
  rw [List.count_append, List.count_singleton]
  by_cases h : a = q
  · subst h; simp
  · rw [if_neg h]; simp [h]
theorem nmc_63 {d : Nat} {w : Int} {S : Int → Int} {D : Int → nm_T} {W : nm_W} {M : am_M} {Q : List am_V → am_M → Prop} (hd : 5 ≤ d) (hA : nm_CA M S D) (hw : w ∈ nm_WL) (hW : nm_CW M w W) (hoW : nm_okW (S 0) W) (hQ : ∀ M', nm_Fr (nm_Ag ++ nm_Wg w) M M' → nm_CW M' w (nm_work S (nm_lwf S D) W) → Q [(0, ((nm_all S W (nm_lwf S D) (S 7)).length : Int))] M') : am_CL d 63 [(2, 17), (2, w)] M Q := by
  have hA0 := hA
  obtain ⟨hL, hS, hO, hX⟩ := hA
  have hlen : W.2.1.length ≤ 6 := hW.2.2.1
  have o0 := hO.1
  have o7 := hO.2.2.2.2.2.2.1
  obtain ⟨n1, n2, nd, nm, ns, nst⟩ := hoW
  refine h_63_0 hL hw ⟨by omega, nmc_123 (by omega) hL hS hO hX (fun t ht => ?_)⟩
  refine h_63_7 hL hw ?_
  have outer : ∀ p, p ≤ W.2.1.length → ∀ (M1 : am_M) (l5 l6 l7 : am_V), nm_Fr (nm_Ag ++ nm_Wg w) M M1 → nm_CW M1 w (W.1, W.2.1, W.2.2.1, fun q => min 99 (W.2.2.2 q + ((nm_ps S W (nm_lwf S D) (S 7) p).count q : Int))) → am_WP d am_c63 13 [(2, 17), (2, w), (2, t), (0, ((nm_ps S W (nm_lwf S D) (S 7) p).length : Int)), (0, (p : Int)), l5, l6, l7] [] M1 Q := by
    refine nm_dn ?_
    intro p hp ih M1 l5 l6 l7 F1 hW1
    have hA1 := nm_CA_AW hA0 hw F1
    have b2 : am_gt M1 w 1 = (W.2.1.length : Int) := hW1.2.1
    have b4 : ∀ p : Nat, p < W.2.1.length → am_gt M1 (w + 1) (p : Int) = W.2.1.getD p 0 := hW1.2.2.2.1
    refine h_63_13 hA1.1 hw ⟨fun h => ?_, fun h => ⟨by omega, by omega, ?_⟩⟩
    · have hpe : p = W.2.1.length := by omega
      rw [hpe] at hW1 ⊢
      exact hQ M1 F1 hW1
    · have hpl : p < W.2.1.length := by omega
      have hmm := nm _ (nm_getD_mem hpl)
      rw [b4 p hpl, nm_wk (by omega)]
      have hpl8 := nm_ps_len (S := S) (W := W) (T := nm_lwf S D) o7.2 p
      have inner : ∀ j, j ≤ (S 7 - (p : Int)).toNat → ∀ (M2 : am_M) (l7 : am_V), nm_Fr (nm_Ag ++ nm_Wg w) M M2 → nm_CW M2 w (W.1, W.2.1, W.2.2.1, fun q => min 99 (W.2.2.2 q + ((nm_ps S W (nm_lwf S D) (S 7) p ++ nm_hs (fun h => nm_mk S W (nm_lwf S D) (W.2.1.getD p 0) (p : Int) h) ((p : Int) + 1) j).count q : Int))) → am_WP d am_c63 37 [(2, 17), (2, w), (2, t), (0, ((nm_ps S W (nm_lwf S D) (S 7) p ++ nm_hs (fun h => nm_mk S W (nm_lwf S D) (W.2.1.getD p 0) (p : Int) h) ((p : Int) + 1) j).length : Int)), (0, (p : Int)), (0, W.2.1.getD p 0), (0, ((p + 1 + j : Nat) : Int)), l7] [] M2 Q := by
        refine nm_dn ?_
        intro j hj ihj M2 l7 F2 hW2
        have hA2 := nm_CA_AW hA0 hw F2
        obtain ⟨hL2, hS2, -, hX2⟩ := hA2
        have e7 := nm_s7 hS2
        refine h_63_37 hL2 hw ⟨fun h => ?_, fun h => ⟨by omega, nmc_116 hL2 hS2 hO hmm.1 hmm.2 (by omega) (by omega) (by omega) ?_⟩⟩
        · have hje : j = (S 7 - (p : Int)).toNat := by omega
          rw [nm_wk (by omega)]
          have := ih (by omega) M2 (0, W.2.1.getD p 0) (0, ((p + 1 + j : Nat) : Int)) l7 F2
          rw [nm_ps_succ, ← hje] at this
          exact this hW2
        · refine h_63_71 hL2 hw ⟨by omega, ?_⟩
          have hoW2 : nm_okW (S 0) (W.1, W.2.1, W.2.2.1, fun q => min 99 (W.2.2.2 q + ((nm_ps S W (nm_lwf S D) (S 7) p ++ nm_hs (fun h => nm_mk S W (nm_lwf S D) (W.2.1.getD p 0) (p : Int) h) ((p : Int) + 1) j).count q : Int))) := ⟨n1, n2, nd, nm, ns, fun q a b => by have := nst q a b; show 0 ≤ min 99 _ ∧ min 99 _ ≤ 99; omega⟩
          refine nmc_58 (T := nm_lwf S D) (by omega) (nm_CA_AW hA0 hw F2) hw hW2 hoW2 (nm_tx_fr ht F2 (nm_lo_app (by decide) (nm_loW hw))) hmm.1 (by omega) (by omega) (by omega) (nm_seen_in hO hmm.1 hmm.2 (by omega)) (fun M3 F3 => ?_)
          have F13 := nm_Fr_trans F2 (nm_AWsub F3)
          have hA3 := nm_CA_AW hA0 hw F13
          have hW3 := nm_CW_fr hW2 hL2 hw F3 (nm_AgW hw)
          have hmk : nm_made S (W.1, W.2.1, W.2.2.1, fun q => min 99 (W.2.2.2 q + ((nm_ps S W (nm_lwf S D) (S 7) p ++ nm_hs (fun h => nm_mk S W (nm_lwf S D) (W.2.1.getD p 0) (p : Int) h) ((p : Int) + 1) j).count q : Int))) (nm_lwf S D) (W.2.1.getD p 0) (p : Int) ((p + 1 + j : Nat) : Int) (nm_seen S (W.2.1.getD p 0) (p : Int) ((p + 1 + j : Nat) : Int)) = nm_mk S W (nm_lwf S D) (W.2.1.getD p 0) (p : Int) ((p : Int) + 1 + (j : Int)) := by
            have : ((p + 1 + j : Nat) : Int) = (p : Int) + 1 + (j : Int) := by omega
            rw [this]; rfl
          have hin := nm_made_in (S := S) (W := W) (T := nm_lwf S D) (m := W.2.1.getD p 0) (p := (p : Int)) (h := (p : Int) + 1 + (j : Int)) (q := nm_seen S (W.2.1.getD p 0) (p : Int) ((p : Int) + 1 + (j : Int)))
          have hin' : 0 ≤ nm_mk S W (nm_lwf S D) (W.2.1.getD p 0) (p : Int) ((p : Int) + 1 + (j : Int)) ∧ nm_mk S W (nm_lwf S D) (W.2.1.getD p 0) (p : Int) ((p : Int) + 1 + (j : Int)) ≤ 7 := hin
          rw [hmk]
          refine h_63_74 hA3.1 hw ⟨hin'.1, by omega, by omega, ?_⟩
          have hl1 : (nm_ps S W (nm_lwf S D) (S 7) p ++ nm_hs (fun h => nm_mk S W (nm_lwf S D) (W.2.1.getD p 0) (p : Int) h) ((p : Int) + 1) (j + 1)).length = (nm_ps S W (nm_lwf S D) (S 7) p ++ nm_hs (fun h => nm_mk S W (nm_lwf S D) (W.2.1.getD p 0) (p : Int) h) ((p : Int) + 1) j).length + 1 := by
            rw [List.length_append, List.length_append, nm_hs_len, nm_hs_len]; omega
          have hl2 : (nm_ps S W (nm_lwf S D) (S 7) p ++ nm_hs (fun h => nm_mk S W (nm_lwf S D) (W.2.1.getD p 0) (p : Int) h) ((p : Int) + 1) j).length ≤ 100 := by
            rw [List.length_append, nm_hs_len]; omega
          obtain ⟨k1, k2, k3, k4, k5, k6⟩ := hW3
          rw [nm_wk (by omega), nm_wk (by omega), ← hl1, k6 _ hin'.1 (by omega)]
          refine ihj (by omega) _ _ (nm_Fr_st F13 (nm_inAW (nm_g3 hin'.1 (by omega)))) ⟨?_, ?_, k3, fun x hx => ?_, fun x a b => ?_, fun x a b => ?_⟩
          · simp only [nm_gt_st, nm_vv03, false_and, if_false]; exact k1
          · simp only [nm_gt_st, nm_vv03, false_and, if_false]; exact k2
          · simp only [nm_gt_st, nm_vv13, false_and, if_false]; exact k4 x hx
          · simp only [nm_gt_st, nm_vv23, false_and, if_false]; exact k5 x a b
          · have hst := nst x a b
            simp only [nm_gt_st, true_and]
            rw [nm_hs_succ, ← List.append_assoc, nm_count1]
            by_cases hxe : x = nm_mk S W (nm_lwf S D) (W.2.1.getD p 0) (p : Int) ((p : Int) + 1 + (j : Int))
            · rw [if_pos hxe, if_pos hxe.symm, ← hxe, am_w_id (by omega) (by omega)]
              omega
            · rw [if_neg hxe, if_neg (fun h => hxe h.symm), k6 x a b]
              simp only [Int.add_zero]
      have h0 := inner 0 (Nat.zero_le _) M1 l7 F1
      rw [show nm_hs (fun h => nm_mk S W (nm_lwf S D) (W.2.1.getD p 0) (p : Int) h) ((p : Int) + 1) 0 = [] from rfl, List.append_nil] at h0
      exact h0 hW1
  refine outer 0 (Nat.zero_le _) M _ _ _ (nm_Fg_refl _ _) ?_
  obtain ⟨k1, k2, k3, k4, k5, k6⟩ := hW
  refine ⟨k1, k2, k3, k4, k5, fun x a b => ?_⟩
  have hst := nst x a b
  rw [k6 x a b]
  show W.2.2.2 x = min 99 (W.2.2.2 x + (([] : List Int).count x : Int))
  rw [List.count_nil]; omega
theorem nm_env_ws {S : Int → Int} {T : nm_T} {W : nm_W} {k : Nat} {p h q : Int} (hl : W.2.1.Nodup) (hk : k < W.2.1.length) : nm_env S (W.1, W.2.1, nm_ws S T W k, W.2.2.2) (W.2.1.getD k 0) p h q = nm_env S W (W.2.1.getD k 0) p h q := by
  funext i
  have : nm_ws S T W k (W.2.1.getD k 0) = W.2.2.1 (W.2.1.getD k 0) := by unfold nm_ws; rw [if_neg (nm_nodup_take hl hk)]
  simp only [nm_env, this]
theorem nm_ws_succ {S : Int → Int} {T : nm_T} {W : nm_W} {k : Nat} {m : Int} (hl : W.2.1.Nodup) (hk : k < W.2.1.length) : nm_ws S T W (k + 1) m = if m = W.2.1.getD k 0 then max 0 (W.2.2.1 m - nm_wear S W T m (k : Int)) else nm_ws S T W k m := by
  unfold nm_ws
  rw [nm_take1 hk]
  by_cases hm : m = W.2.1.getD k 0
  · rw [if_pos hm, if_pos (List.mem_append.mpr (.inr (List.mem_singleton.mpr hm))), hm, nm_nodup_ix hl hk]
  · rw [if_neg hm]
    by_cases h2 : m ∈ W.2.1.take k
    · rw [if_pos (List.mem_append.mpr (.inl h2)), if_pos h2]
    · rw [if_neg (fun h => (List.mem_append.mp h).elim h2 (fun h => hm (List.mem_singleton.mp h))), if_neg h2]
theorem nm_wear_in {S : Int → Int} {W : nm_W} {T : nm_T} {m p : Int} : 0 ≤ nm_wear S W T m p ∧ nm_wear S W T m p ≤ 9 := by
  unfold nm_wear
  split
  · decide
  · exact nm_cut_in (by decide)
theorem nm_ws_in {S : Int → Int} {T : nm_T} {W : nm_W} {k : Nat} {m : Int} (h : 0 ≤ W.2.2.1 m ∧ W.2.2.1 m ≤ 30) : 0 ≤ nm_ws S T W k m ∧ nm_ws S T W k m ≤ 30 := by
  have := nm_wear_in (S := S) (W := W) (T := T) (m := m) (p := nm_ix W.2.1 m)
  unfold nm_ws
  split <;> omega
theorem nmc_64 {d : Nat} {w : Int} {S : Int → Int} {D : Int → nm_T} {W : nm_W} {M : am_M} {Q : List am_V → am_M → Prop} (hd : 5 ≤ d) (hA : nm_CA M S D) (hw : w ∈ nm_WL) (hW : nm_CW M w W) (hoW : nm_okW (S 0) W) (hQ : ∀ M', nm_Fr (nm_Ag ++ nm_Wg w) M M' → nm_CW M' w (nm_wearW S (nm_lwf S D) W) → Q [] M') : am_CL d 64 [(2, 17), (2, w)] M Q := by
  have hA0 := hA
  obtain ⟨hL, hS, hO, hX⟩ := hA
  have hlen : W.2.1.length ≤ 6 := hW.2.2.1
  have o0 := hO.1
  obtain ⟨n1, n2, nd, nm, ns, nst⟩ := hoW
  refine h_64_0 hL hw ?_
  have key : ∀ k, k ≤ W.2.1.length → ∀ (M1 : am_M) (l3 : am_V), nm_Fr (nm_Ag ++ nm_Wg w) M M1 → nm_CW M1 w (W.1, W.2.1, nm_ws S (nm_lwf S D) W k, W.2.2.2) → am_WP d am_c64 2 [(2, 17), (2, w), (0, (k : Int)), l3] [] M1 Q := by
    refine nm_dn ?_
    intro k hk ih M1 l3 F1 hW1
    have hA1 := nm_CA_AW hA0 hw F1
    have hW10 := hW1
    obtain ⟨k1, k2, k3, k4, k5, k6⟩ := hW1
    refine h_64_2 hA1.1 hw ⟨fun h => ⟨by omega, ?_⟩, fun h => ⟨by omega, by omega, ?_⟩⟩
    · have hke : k = W.2.1.length := by have : am_gt M1 w 1 = (W.2.1.length : Int) := k2; omega
      refine nmc_139 hA1.1 hw hW10 (fun m hm => ⟨(nm m hm).1, by have := nm m hm; omega⟩) (fun M2 F2 hW2 => ?_)
      have F12 := nm_Fr_trans F1 (nm_Fr_appr F2)
      have hA2 := nm_CA_AW hA0 hw F12
      refine h_64_51 hA2.1 hw ?_
      obtain ⟨j1, j2, j3, j4, j5, j6⟩ := hW2
      rw [hke] at *
      refine hQ _ (nm_Fr_st F12 (nm_inAW (nm_g0 (by decide) (by decide)))) ⟨?_, ?_, j3, fun x hx => ?_, fun x a b => ?_, fun x a b => ?_⟩
      · simp only [nm_gt_st, and_self, if_true]
        rw [j1]
        show am_w (W.1 + 1) = W.1 + 1
        exact am_w_id (by omega) (by omega)
      · simp only [nm_gt_st, Int.reduceEq, and_false, if_false]; exact j2
      · simp only [nm_gt_st, nm_vv10, false_and, if_false]; exact j4 x hx
      · simp only [nm_gt_st, nm_vv20, false_and, if_false]; exact j5 x a b
      · simp only [nm_gt_st, nm_vv30, false_and, if_false]; exact j6 x a b
    · have hkl : k < W.2.1.length := by have : am_gt M1 w 1 = (W.2.1.length : Int) := k2; omega
      have hmm := nm _ (nm_getD_mem hkl)
      have e1 : am_gt M1 (w + 1) (k : Int) = W.2.1.getD k 0 := k4 k hkl
      have e2 : am_gt M1 (w + 2) (W.2.1.getD k 0) = W.2.2.1 (W.2.1.getD k 0) := by
        rw [k5 _ hmm.1 (by omega)]
        show nm_ws S (nm_lwf S D) W k (W.2.1.getD k 0) = _
        unfold nm_ws; rw [if_neg (nm_nodup_take nd hkl)]
      rw [e1, e2]
      refine ⟨hmm.1, by omega, by omega, ?_⟩
      have hoW1 : nm_okW (S 0) (W.1, W.2.1, nm_ws S (nm_lwf S D) W k, W.2.2.2) := ⟨n1, n2, nd, nm, fun m a b => nm_ws_in (ns m a b), nst⟩
      refine nmc_59 (by omega) hA1 hw hW10 hoW1 hmm.1 (by omega) (by omega) (fun M2 F2 => ?_)
      have F12 := nm_Fr_trans F1 (nm_AWsub F2)
      have hA2 := nm_CA_AW hA0 hw F12
      have hwr : nm_wear S (W.1, W.2.1, nm_ws S (nm_lwf S D) W k, W.2.2.2) (nm_lwf S D) (W.2.1.getD k 0) (k : Int) = nm_wear S W (nm_lwf S D) (W.2.1.getD k 0) (k : Int) := by
        unfold nm_wear; rw [nm_env_ws nd hkl]
      rw [hwr]
      have hwi := nm_wear_in (S := S) (W := W) (T := nm_lwf S D) (m := W.2.1.getD k 0) (p := (k : Int))
      have hsi := ns _ hmm.1 (show W.2.1.getD k 0 < 6 by omega)
      refine h_64_36 hA2.1 hw ⟨by omega, hmm.1, by omega, ?_⟩
      rw [nm_wk (by omega), am_w_id (by omega) (by omega)]
      obtain ⟨j1, j2, j3, j4, j5, j6⟩ := nm_CW_fr hW10 hA1.1 hw F2 (nm_AgW hw)
      refine ih hkl _ _ (nm_Fr_st F12 (nm_inAW (nm_g2 hmm.1 (by omega)))) ⟨?_, ?_, j3, fun x hx => ?_, fun x a b => ?_, fun x a b => ?_⟩
      · simp only [nm_gt_st, nm_vv02, false_and, if_false]; exact j1
      · simp only [nm_gt_st, nm_vv02, false_and, if_false]; exact j2
      · simp only [nm_gt_st, nm_vv12, false_and, if_false]; exact j4 x hx
      · simp only [nm_gt_st, true_and]
        show _ = nm_ws S (nm_lwf S D) W (k + 1) x
        rw [nm_ws_succ nd hkl]
        by_cases hxe : x = W.2.1.getD k 0
        · rw [if_pos hxe, if_pos hxe, hxe]
        · rw [if_neg hxe, if_neg hxe]; exact j5 x a b
      · simp only [nm_gt_st, nm_vv32, false_and, if_false]; exact j6 x a b
  refine key 0 (Nat.zero_le _) M _ (nm_Fg_refl _ _) ?_
  obtain ⟨k1, k2, k3, k4, k5, k6⟩ := hW
  refine ⟨k1, k2, k3, k4, fun x a b => ?_, k6⟩
  rw [k5 x a b]
  show _ = nm_ws S (nm_lwf S D) W 0 x
  unfold nm_ws; rw [if_neg (by rw [List.take_zero]; exact List.not_mem_nil)]
