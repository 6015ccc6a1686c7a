/-! THE REFERENCE: hanging, nights -/
theorem nm_php : ∀ (n : Nat) (l : List Int), l.Nodup → (∀ m ∈ l, 0 ≤ m ∧ m < (n : Int)) → l.length ≤ n
  | 0, l, _, h => by
    cases l with
    | nil => simp
    | cons a t => have := h a List.mem_cons_self; omega
  | n + 1, l, hn, h => by
    by_cases hm : (n : Int) ∈ l
    · have h1 := nm_php n (l.erase (n : Int)) (hn.erase _) (fun m hm' => by
        have h2 := (List.Nodup.mem_erase_iff hn).mp hm'
        have h3 := h m h2.2
        have h4 := h2.1
        omega)
      rw [List.length_erase_of_mem hm] at h1
      omega
    · have := nm_php n l hn (fun m hm' => by
        have h3 := h m hm'
        have h4 : m ≠ (n : Int) := fun e => hm (e ▸ hm')
        omega)
      omega
theorem nm_full {n m : Int} {W : nm_W} (h : nm_okW n W) (hn : n ≤ 6) (m0 : 0 ≤ m) (m1 : m < n) (hl : m ∉ W.2.1) : W.2.1.length < 6 := by
  have := nm_php 6 (m :: W.2.1) (List.nodup_cons.mpr ⟨hl, h.2.2.1⟩) (fun k hk => by
    rcases List.mem_cons.mp hk with e | e
    · omega
    · have := h.2.2.2.1 k e; omega)
  rw [List.length_cons] at this
  omega
abbrev nm_wgM : nm_Rg := [(216, 4, 5), (216, 8, 29)]
theorem nm_MA_W {n s : Int} {f : nm_Rg} {M M' : am_M} {S : Int → Int} {W W' : nm_W} {D : Int → nm_T} (h : nm_MA M S W D) (F : nm_Fg n s f M M') (h1 : nm_lk f = true) (h2 : nm_dj f [(216, 0, 4), (216, 5, 8), (216, 29, 5510)] = true) (h3 : nm_dj f [(214, 20, 21)] = true) (hW : nm_MW M' W') : nm_MA M' S W' D := by
  obtain ⟨a1, a2, a3, a4, a5, a6⟩ := h
  have o2 := a4.2.2.1
  have kp : ∀ i, (0 ≤ i ∧ i < 4) ∨ (5 ≤ i ∧ i < 8) ∨ (29 ≤ i ∧ i < 5510) → am_gt M' 216 i = am_gt M 216 i := by
    intro i hi
    refine nm_gt_frd F a1 (by decide) h2 ?_
    rcases hi with h | h | h
    · exact nm_in_c (lo := 0) (hi := 4) (by decide) h.1 h.2
    · exact nm_in_c (lo := 5) (hi := 8) (by decide) h.1 h.2
    · exact nm_in_c (lo := 29) (hi := 5510) (by decide) h.1 h.2
  refine ⟨nm_Lay_fr a1 F h1, fun i hi => by rw [kp i (by unfold nm_si at hi; omega)]; exact a2 i hi, hW, a4, fun k k0 k1 => nm_MT_kp2 (a5 k k0 k1) (by omega) (by omega) (fun i x y => kp i (by omega)), by rw [nm_gt_frd (g := [(214, 20, 21)]) F a1 (by decide) h3 (by decide)]; exact a6⟩
theorem nm_MW_ext {M : am_M} {W W' : nm_W} (h : nm_MW M W) (e0 : W'.1 = W.1) (e1 : W'.2.1 = W.2.1) (e2 : ∀ m, 0 ≤ m → m < 6 → W'.2.2.1 m = W.2.2.1 m) (e3 : ∀ p, 0 ≤ p → p < 8 → W'.2.2.2 p = W.2.2.2 p) : nm_MW M W' := by
  obtain ⟨h1, h2, h3, h4, h5, h6⟩ := h
  exact ⟨by rw [e0]; exact h1, by rw [e1]; exact h2, by rw [e1]; exact h3, by rw [e1]; exact h4, fun m a b => by rw [e2 m a b]; exact h5 m a b, fun p a b => by rw [e3 p a b]; exact h6 p a b⟩
theorem nm_hangR_no {S : Int → Int} {W : nm_W} {T : nm_T} {m : Int} (m0 : 0 ≤ m) (m1 : m < S 0) (h : W.2.2.1 m = 0 ∨ nm_ix W.2.1 m ≠ -1 ∨ nm_bar S W T m (W.2.1.length : Int) = true) : nm_hangR S W T m = -3 := by
  unfold nm_hangR; rw [if_neg (by omega), if_pos (.inr h)]
theorem nm_hangR_yes {S : Int → Int} {W : nm_W} {T : nm_T} {m : Int} (m0 : 0 ≤ m) (m1 : m < S 0) (hl : W.2.1.length < 6) (h : ¬ (W.2.2.1 m = 0 ∨ nm_ix W.2.1 m ≠ -1 ∨ nm_bar S W T m (W.2.1.length : Int) = true)) : nm_hangR S W T m = (W.2.1.length : Int) := by
  unfold nm_hangR; rw [if_neg (by omega), if_neg (fun c => c.elim (fun c => by omega) h)]
theorem nm_ix_m1 {l : List Int} {m : Int} (h : nm_ix l m = -1) : m ∉ l := by
  rcases nm_ix_cases l m with ⟨-, e⟩ | ⟨k, -, -, e⟩
  · exact e
  · omega
theorem nmm_212 {d : Nat} {m : Int} {S : Int → Int} {W : nm_W} {D : Int → nm_T} {M : am_M} {Q : List am_V → am_M → Prop} (hd : 7 ≤ d) (hA : nm_MA M S W D) (oW : nm_okW (S 0) W) (m0 : 0 ≤ m) (m1 : m < S 0) (h1 : ∀ M', nm_Fr nm_tg M M' → nm_hangR S W (nm_lwf S D) m = (W.2.1.length : Int) → m ∉ W.2.1 → W.2.1.length < 6 → Q [(0, 1)] M') (h0 : ∀ M', nm_Fr nm_tg M M' → nm_hangR S W (nm_lwf S D) m = -3 → Q [(0, 0)] M') : am_CL d 212 [(2, 214), (0, m)] M Q := by
  have hA0 := hA
  obtain ⟨hL, hS, hW, hO, hX, a6⟩ := hA
  have o0 := hO.1
  have bs := oW.2.2.2.2.1 m m0 (by omega)
  refine h_212_0 hL ⟨by omega, nm_m157 hL hW oW.2.2.1 (h_212_5 hL ⟨fun h => h0 M (nm_Fg_refl _ _) (nm_hangR_no m0 m1 (.inr (.inl h))), fun h => ?_⟩)⟩
  have hx : nm_ix W.2.1 m = -1 := by omega
  have hl := nm_full oW o0.2 m0 m1 (nm_ix_m1 hx)
  rw [am_w_id (x := 15 + m) (by omega) (by omega), hW.2.2.2.2.1 m m0 (by omega), hW.2.1]
  refine ⟨by omega, by omega, fun hz => h0 M (nm_Fg_refl _ _) (nm_hangR_no m0 m1 (.inl (by omega))), fun hz => ⟨by omega, nm_m211 (by omega) hA0 oW m0 (by omega) (by omega) (fun M1 F1 => ?_)⟩⟩
  have hL1 := nm_Lay_fr hL F1 (by decide +kernel)
  cases hb : nm_bar S W (nm_lwf S D) m (W.2.1.length : Int)
  · refine h_212_33 hL1 ⟨fun h => absurd rfl h, fun _ => h1 M1 F1 (nm_hangR_yes m0 m1 hl ?_) (nm_ix_m1 hx) hl⟩
    rintro (c | c | c)
    · omega
    · exact c hx
    · rw [hb] at c; cases c
  · exact h_212_33 hL1 ⟨fun _ => h0 M1 F1 (nm_hangR_no m0 m1 (.inr (.inr hb))), fun h => absurd (by decide) h⟩
theorem nmm_213 {d : Nat} {m : Int} {W : nm_W} {M : am_M} {Q : List am_V → am_M → Prop} (hL : nm_Lay M) (hW : nm_MW M W) (hl : W.2.1.length < 6) (hQ : ∀ M', nm_Fr nm_wgM M M' → nm_MW M' (nm_hangW W m) → Q [] M') : am_CL d 213 [(2, 214), (0, m)] M Q := by
  obtain ⟨h1, h2, h3, h4, h5, h6⟩ := hW
  refine h_213_0 hL ?_
  rw [h2, am_w_id (x := 9 + _) (by omega) (by omega), nm_st_nj (by omega), h2, am_w_id (x := _ + 1) (by omega) (by omega)]
  refine ⟨by omega, by omega, hQ _ (nm_Fr_st (nm_Fr_st (nm_Fg_refl _ _) (nm_in_c (lo := 8) (hi := 29) (by decide) (by omega) (by omega))) (by decide)) ⟨?_, ?_, ?_, fun p hp => ?_, fun k a b => ?_, fun p a b => ?_⟩⟩
  · rw [nm_st_nj (by decide), nm_st_nj (by omega)]; exact h1
  · rw [nm_st_eq]; show _ = ((W.2.1 ++ [m]).length : Int); rw [List.length_append, List.length_singleton]; omega
  · show (W.2.1 ++ [m]).length ≤ 6; rw [List.length_append, List.length_singleton]; omega
  · have hp' : p < W.2.1.length + 1 := by have : p < (W.2.1 ++ [m]).length := hp; rw [List.length_append, List.length_singleton] at this; exact this
    show _ = (W.2.1 ++ [m]).getD p 0
    rw [nm_st_nj (by omega), nm_gt_st]
    by_cases hpl : p = W.2.1.length
    · rw [if_pos ⟨rfl, by omega⟩, hpl, nm_getD_end]
    · rw [if_neg (by omega), h4 p (by omega), nm_getD_app (by omega)]
  · rw [nm_st_nj (by omega), nm_st_nj (by omega)]; exact h5 k a b
  · rw [nm_st_nj (by omega), nm_st_nj (by omega)]; exact h6 p a b
theorem nmm_216 {d : Nat} {k : Nat} {W : nm_W} {M : am_M} {Q : List am_V → am_M → Prop} (hL : nm_Lay M) (hW : nm_MW M W) (hk : k < W.2.1.length) (hQ : ∀ M', nm_Fr nm_wgM M M' → nm_MW M' (nm_downW W k) → Q [] M') : am_CL d 216 [(2, 214), (0, (k : Int))] M Q := by
  obtain ⟨h1, h2, h3, h4, h5, h6⟩ := hW
  refine h_216_0 hL ?_
  have key : ∀ j, j ≤ W.2.1.length - 1 → ∀ M1, k ≤ j → nm_Fr nm_wgM M M1 → (∀ i, i < 9 ∨ 15 ≤ i → am_gt M1 216 i = am_gt M 216 i) → (∀ p : Nat, p < W.2.1.length → am_gt M1 216 (9 + (p : Int)) = if k ≤ p ∧ p < j then W.2.1.getD (p + 1) 0 else W.2.1.getD p 0) → am_WP d am_c216 2 [(2, 214), (0, (k : Int)), (0, (j : Int))] [] M1 Q := by
    refine nm_dn ?_
    intro j hj ih M1 hkj F a0 a2
    have hL1 := nm_Lay_fr hL F (by decide +kernel)
    have e8 : am_gt M1 216 8 = (W.2.1.length : Int) := by rw [a0 8 (by omega)]; exact h2
    have w8 : am_w ((W.2.1.length : Int) - 1) = (W.2.1.length : Int) - 1 := am_w_id (by omega) (by omega)
    refine h_216_2 hL1 ?_
    rw [e8, w8]
    refine ⟨fun h => ?_, fun h => ?_⟩
    · rw [am_w_id (x := 9 + _) (by omega) (by omega)]
      have hlen : (nm_downW W k).2.1.length = W.2.1.length - 1 := by
        show (W.2.1.eraseIdx k).length = _
        rw [List.length_eraseIdx, if_pos hk]
      refine ⟨by omega, by omega, hQ _ (nm_Fr_st (nm_Fr_st F (by decide)) (nm_in_c (lo := 8) (hi := 29) (by decide) (by omega) (by omega))) ⟨?_, ?_, ?_, fun p hp => ?_, fun q b c => ?_, fun q b c => ?_⟩⟩
      · rw [nm_st_nj (by omega), nm_st_nj (by decide), a0 4 (by omega)]; exact h1
      · rw [nm_st_nj (by omega), nm_st_eq, hlen]; omega
      · omega
      · rw [nm_st_nj (by omega), nm_st_nj (by omega), a2 p (by omega)]
        show _ = (W.2.1.eraseIdx k).getD p 0
        rw [nm_erase]
        by_cases hpk : p < k
        · rw [if_neg (by omega), if_pos hpk]
        · rw [if_pos (by omega), if_neg hpk]
      · rw [nm_st_nj (by omega), nm_st_nj (by omega), a0 _ (by omega)]; exact h5 q b c
      · rw [nm_st_nj (by omega), nm_st_nj (by omega), a0 _ (by omega)]; exact h6 q b c
    · rw [am_w_id (x := 9 + (j : Int)) (by omega) (by omega), am_w_id (x := 9 + (j : Int) + 1) (by omega) (by omega), nm_wk (by omega)]
      have ej : am_gt M1 216 (9 + (j : Int) + 1) = W.2.1.getD (j + 1) 0 := by
        have := a2 (j + 1) (by omega)
        rw [if_neg (by omega), show (9 + ((j + 1 : Nat) : Int)) = 9 + (j : Int) + 1 by omega] at this
        exact this
      rw [ej]
      refine ⟨by omega, by omega, by omega, by omega, ih (by omega) _ (by omega) (nm_Fr_st F (nm_in_c (lo := 8) (hi := 29) (by decide) (by omega) (by omega))) (fun i hi => by rw [nm_st_nj (by omega)]; exact a0 i hi) (fun p hp => ?_)⟩
      rw [nm_gt_st]
      by_cases hpj : p = j
      · subst hpj; rw [if_pos ⟨rfl, rfl⟩, if_pos (by omega)]
      · rw [if_neg (by omega), a2 p hp]
        by_cases hc : k ≤ p ∧ p < j
        · rw [if_pos hc, if_pos (by omega)]
        · rw [if_neg hc, if_neg (by omega)]
  exact key k (by omega) M (Nat.le_refl _) (nm_Fg_refl _ _) (fun _ _ => rfl) (fun p hp => by rw [if_neg (by omega)]; exact h4 p hp)
abbrev nm_lgM : nm_Rg := nm_tg ++ [(235, 0, 8)]
theorem nmm_221 {d : Nat} {S : Int → Int} {W : nm_W} {D : Int → nm_T} {M : am_M} {Q : List am_V → am_M → Prop} (hd : 8 ≤ d) (hA : nm_MA M S W D) (oW : nm_okW (S 0) W) (hQ : ∀ M', nm_Fr nm_lgM M M' → (∀ p, 0 ≤ p → p < 8 → am_gt M' 235 p = ((nm_all S W (nm_lwf S D) (S 7)).count p : Int)) → Q [(0, ((nm_all S W (nm_lwf S D) (S 7)).length : Int))] M') : am_CL d 221 [(2, 214)] M Q := by
  have hA0 := hA
  obtain ⟨hL, hS, hW, hO, hX, a6⟩ := hA
  have o0 := hO.1
  have o7 := hO.2.2.2.2.2.2.1
  have l6 := hW.2.2.1
  obtain ⟨n1, n2, nd, nm, ns, nst⟩ := oW
  have lay : ∀ {M1}, nm_Fr nm_lgM M M1 → nm_MA M1 S W D := fun F => nm_MA_fr hA0 F (by decide +kernel) (by decide +kernel) (by decide +kernel)
  have outer : ∀ p, p ≤ W.2.1.length → ∀ (M1 : am_M) (l3 : am_V), nm_Fr nm_lgM M M1 → (∀ q, 0 ≤ q → q < 8 → am_gt M1 235 q = ((nm_ps S W (nm_lwf S D) (S 7) p).count q : Int)) → am_WP d am_c221 25 [(2, 214), (0, ((nm_ps S W (nm_lwf S D) (S 7) p).length : Int)), (0, (p : Int)), l3] [] M1 Q := by
    refine nm_dn ?_
    intro p hp ih M1 l3 F1 a1
    have hA1 := lay F1
    have e8 : am_gt M1 216 8 = (W.2.1.length : Int) := hA1.2.2.1.2.1
    refine h_221_25 hA1.1 ?_
    rw [e8]
    refine ⟨fun h => ?_, fun h => ?_⟩
    · have hpe : p = W.2.1.length := by omega
      subst hpe
      exact hQ M1 F1 a1
    · have hpl : p < W.2.1.length := by omega
      have hmm := nm _ (nm_getD_mem hpl)
      rw [nm_wk (by omega)]
      have hpl8 := nm_ps_len (S := S) (W := W) (T := nm_lwf S D) o7.2 p
      have inner : ∀ j, j ≤ (S 7 - (p : Int)).toNat → ∀ (M2 : am_M), nm_Fr nm_lgM M M2 → (∀ q, 0 ≤ q → q < 8 → am_gt M2 235 q = ((nm_ps S W (nm_lwf S D) (S 7) p ++ nm_hs (fun h => nm_mk S W (nm_lwf S D) (W.2.1.getD p 0) (p : Int) h) ((p : Int) + 1) j).count q : Int)) → am_WP d am_c221 40 [(2, 214), (0, ((nm_ps S W (nm_lwf S D) (S 7) p ++ nm_hs (fun h => nm_mk S W (nm_lwf S D) (W.2.1.getD p 0) (p : Int) h) ((p : Int) + 1) j).length : Int)), (0, (p : Int)), (0, ((p + 1 + j : Nat) : Int))] [] M2 Q := by
        refine nm_dn ?_
        intro j hj ihj M2 F2 a2
        have hA2 := lay F2
        have e7 : am_gt M2 216 7 = S 7 := hA2.2.1 7 (by unfold nm_si; omega)
        refine h_221_40 hA2.1 ?_
        rw [e7]
        refine ⟨fun h => ?_, fun h => ?_⟩
        · have hje : j = (S 7 - (p : Int)).toNat := by omega
          rw [nm_wk (by omega)]
          have := ih (by omega) M2 (0, ((p + 1 + j : Nat) : Int)) F2
          rw [nm_ps_succ, ← hje] at this
          exact this a2
        · rw [am_w_id (x := 9 + (p : Int)) (by omega) (by omega), hA2.2.2.1.2.2.2.1 p hpl]
          refine ⟨by omega, by omega, by omega, nm_m208 (by omega) hA2 ⟨n1, n2, nd, nm, ns, nst⟩ hmm.1 hmm.2 (by omega) (by omega) (fun M3 F3 => ?_)⟩
          have F13 : nm_Fr nm_lgM M M3 := nm_Fr_trans F2 (nm_Fr_appl F3)
          have hA3 := lay F13
          rw [if_pos (by omega)]
          have hmk : nm_mk S W (nm_lwf S D) (W.2.1.getD p 0) (p : Int) ((p + 1 + j : Nat) : Int) = nm_mk S W (nm_lwf S D) (W.2.1.getD p 0) (p : Int) ((p : Int) + 1 + (j : Int)) := by
            rw [show ((p + 1 + j : Nat) : Int) = (p : Int) + 1 + (j : Int) by omega]
          rw [hmk]
          have hin : 0 ≤ nm_mk S W (nm_lwf S D) (W.2.1.getD p 0) (p : Int) ((p : Int) + 1 + (j : Int)) ∧ nm_mk S W (nm_lwf S D) (W.2.1.getD p 0) (p : Int) ((p : Int) + 1 + (j : Int)) ≤ 7 := nm_made_in
          have hl1 : (nm_ps S W (nm_lwf S D) (S 7) p ++ nm_hs (fun h => nm_mk S W (nm_lwf S D) (W.2.1.getD p 0) (p : Int) h) ((p : Int) + 1) (j + 1)).length = (nm_ps S W (nm_lwf S D) (S 7) p ++ nm_hs (fun h => nm_mk S W (nm_lwf S D) (W.2.1.getD p 0) (p : Int) h) ((p : Int) + 1) j).length + 1 := by
            rw [List.length_append, List.length_append, nm_hs_len, nm_hs_len]; omega
          have hl2 : (nm_ps S W (nm_lwf S D) (S 7) p ++ nm_hs (fun h => nm_mk S W (nm_lwf S D) (W.2.1.getD p 0) (p : Int) h) ((p : Int) + 1) j).length ≤ 100 := by
            rw [List.length_append, nm_hs_len]; omega
          have e235 : ∀ q, am_gt M3 235 q = am_gt M2 235 q := fun q => nm_gt_frn F3 hA2.1 (by decide) (by decide)
          have hcl : ∀ q, ((nm_ps S W (nm_lwf S D) (S 7) p ++ nm_hs (fun h => nm_mk S W (nm_lwf S D) (W.2.1.getD p 0) (p : Int) h) ((p : Int) + 1) j).count q : Int) ≤ 100 := fun q => by have := List.count_le_length (a := q) (l := nm_ps S W (nm_lwf S D) (S 7) p ++ nm_hs (fun h => nm_mk S W (nm_lwf S D) (W.2.1.getD p 0) (p : Int) h) ((p : Int) + 1) j); omega
          refine h_221_70 hA3.1 ⟨hin.1, by omega, ?_⟩
          rw [nm_wk (by omega), nm_wk (by omega), ← hl1, e235, a2 _ hin.1 (by omega), am_w_id (x := _ + 1) (by omega) (by have := hcl (nm_mk S W (nm_lwf S D) (W.2.1.getD p 0) (p : Int) ((p : Int) + 1 + (j : Int))); omega)]
          refine ihj (by omega) _ (nm_Fr_st F13 (nm_in_c (a := 235) (lo := 0) (hi := 8) (by decide +kernel) hin.1 (by omega))) (fun q x y => ?_)
          rw [nm_hs_succ, ← List.append_assoc, nm_count1, nm_gt_st]
          by_cases hq : q = nm_mk S W (nm_lwf S D) (W.2.1.getD p 0) (p : Int) ((p : Int) + 1 + (j : Int))
          · rw [if_pos ⟨rfl, hq⟩, if_pos hq.symm, ← hq]
          · rw [if_neg (fun c => hq c.2), if_neg (fun c => hq c.symm), e235, a2 q x y]; omega
      have h0 := inner 0 (Nat.zero_le _) M1 F1
      rw [show nm_hs (fun h => nm_mk S W (nm_lwf S D) (W.2.1.getD p 0) (p : Int) h) ((p : Int) + 1) 0 = [] from rfl, List.append_nil] at h0
      exact h0 a1
  refine h_221_0 hL ?_
  have zero : ∀ k : Nat, k ≤ 8 → ∀ M1, nm_Fr nm_lgM M M1 → (∀ q, 0 ≤ q → q < (k : Int) → am_gt M1 235 q = 0) → am_WP d am_c221 4 [(2, 214), (0, 0), (0, (k : Int)), (9, 0)] [] M1 Q := by
    refine nm_dn ?_
    intro k hk ih M1 F1 a1
    refine h_221_4 (lay F1).1 ⟨fun h => ?_, fun h => ⟨by omega, by omega, ?_⟩⟩
    · exact outer 0 (Nat.zero_le _) M1 _ F1 (fun q x y => by rw [a1 q x (by omega)]; rfl)
    · rw [nm_wk (by omega)]
      refine ih (by omega) _ (nm_Fr_st F1 (nm_in_c (a := 235) (lo := 0) (hi := 8) (by decide +kernel) (by omega) (by omega))) (fun q x y => ?_)
      rw [nm_gt_st]
      by_cases hq : q = (k : Int)
      · rw [if_pos ⟨rfl, hq⟩]
      · rw [if_neg (fun c => hq c.2)]; exact a1 q x (by omega)
  exact zero 0 (Nat.zero_le _) M (nm_Fg_refl _ _) (fun q x y => absurd y (by omega))
