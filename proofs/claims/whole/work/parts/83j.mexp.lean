/-! THE REFERENCE READS AS THE PURE READER DOES -/
/-- at the loop's head, with nothing read yet; with something read; wrong at p -/
def rm_A (d : Nat) (T : tk_T) (o i0 x1 : Int) (M0 : am_M) (Q : List am_V → am_M → Prop) (t s n : Int) (l : rm_L) : Prop := ∀ M cl, rm_mv M0 M i0 → rm_st M T o s n cl → rm_P M o i0 s cl l cl → am_WP d am_c196 20 [(2, 214), (0, x1), (0, t)] [] M Q
def rm_O (d : Nat) (T : tk_T) (o i0 x1 : Int) (M0 : am_M) (Q : List am_V → am_M → Prop) (t s n : Int) (l : rm_L) (cur : rd_F) : Prop := ∀ M cl i, rm_mv M0 M i0 → rm_st M T o s n cl → rm_P M o i0 s cl l i → rm_B M o i cl cur → am_WP d am_c196 20 [(2, 214), (0, x1), (0, t)] [] M Q
def rm_E (M0 : am_M) (Q : List am_V → am_M → Prop) (p : Int) : Prop := ∀ M', nm_Fr rm_xb M0 M' → nm_Lay M' → am_gt M' 214 19 = 1 → am_gt M' 214 18 = p → Q [] M'
theorem rm_settlex {d : Nat} {least : Int} {l : rm_L} {M : am_M} {Q : List am_V → am_M → Prop} (hd : 1 ≤ d) (hl1 : 1 ≤ least) (q1 : nm_Lay M) (q4 : rm_pm M l) (q5 : am_gt M 214 29 = (l.length : Int)) (q6 : 0 ≤ am_gt M 214 23) (q7 : am_gt M 214 23 + rm_w l ≤ 400) (q8 : l.length ≤ 400) (hQ : ∀ M', nm_Fr rm_gg M M' → Q [] M') : am_CL d 185 [(2, 214), (0, least)] M Q := h_185_0 q1 (rm_185x hd hl1 l M _ q1 q4 q5 rfl q6 q7 q8 hQ)
theorem rm_bad {d : Nat} {x1 t p : Int} {l : rm_L} {M0 M : am_M} {Q : List am_V → am_M → Prop} (hd : 2 ≤ d) (F : nm_Fr rm_xb M0 M) (hb : rm_bs M p l) (hE : rm_E M0 Q p) : am_WP d am_c196 20 [(2, 214), (0, x1), (0, t)] [] M Q := by
  obtain ⟨q1, q2, q3, q4, q5, q6, q7, q8⟩ := hb
  refine h_196_20 q1 ⟨fun _ => ⟨by omega, rm_settlex (by omega) (by decide) q1 q4 q5 q6 q7 q8 (fun M' F' => ?_)⟩, fun h => absurd (by rw [q2]; decide) h⟩
  have L' : nm_Lay M' := nm_Lay_fr q1 F' (by decide +kernel)
  refine h_196_81 L' (hE M' (nm_Fr_trans F (nm_Fr_sub F' (by decide))) L' ?_ ?_)
  · rw [nm_gt_frd (g := [(214, 19, 20)]) F' q1 (by decide) (by decide) (by decide)]; exact q2
  · rw [nm_gt_frd (g := [(214, 18, 19)]) F' q1 (by decide) (by decide) (by decide)]; exact q3
theorem rm_t1 {d : Nat} {T : tk_T} {o s n cl x1 : Int} {M : am_M} {Q : List am_V → am_M → Prop} (hd : 1 ≤ d) (hst : rm_st M T o s n cl) (h : ∀ R : List am_V → am_M → Prop, (∀ t M', nm_Lay M' → am_WP d am_c196 20 [(2, 214), (0, x1), (0, t)] [] M' Q → R [(0, t)] M') → am_CL (d - 1) 192 [(2, 214)] M R) : am_WP d am_c196 20 [(2, 214), (0, x1), (0, 1)] [] M Q :=
  h_196_20 hst.1 ⟨fun h2 => absurd hst.2.2.2.2.2.2.1 h2, fun _ => ⟨fun h2 => absurd h2 (by decide), fun _ => ⟨fun _ => ⟨fun h2 => absurd rfl h2, fun _ => ⟨by omega, h _ (fun t M' L' q => h_196_52 L' (h_196_72 L' q))⟩⟩, fun h2 => absurd (by decide) h2⟩⟩⟩
theorem rm_t0 {d : Nat} {T : tk_T} {o s n cl x1 : Int} {M : am_M} {Q : List am_V → am_M → Prop} (hd : 1 ≤ d) (hst : rm_st M T o s n cl) (h : ∀ R : List am_V → am_M → Prop, (∀ t M', nm_Lay M' → am_WP d am_c196 20 [(2, 214), (0, x1), (0, t)] [] M' Q → R [(0, t)] M') → am_CL (d - 1) 193 [(2, 214)] M R) : am_WP d am_c196 20 [(2, 214), (0, x1), (0, 0)] [] M Q :=
  h_196_20 hst.1 ⟨fun h2 => absurd hst.2.2.2.2.2.2.1 h2, fun _ => ⟨fun h2 => absurd h2 (by decide), fun _ => ⟨fun h2 => absurd rfl h2, fun _ => ⟨by omega, h _ (fun t M' L' q => h_196_40 L' (h_196_72 L' q))⟩⟩⟩⟩
theorem rm_t3 {d : Nat} {T : tk_T} {o s n cl x1 : Int} {M : am_M} {Q : List am_V → am_M → Prop} (hd : 1 ≤ d) (hst : rm_st M T o s n cl) (h : ∀ R : List am_V → am_M → Prop, (∀ t M', nm_Lay M' → am_WP d am_c196 20 [(2, 214), (0, x1), (0, t)] [] M' Q → R [(0, t)] M') → am_CL (d - 1) 194 [(2, 214), (0, x1)] M R) : am_WP d am_c196 20 [(2, 214), (0, x1), (0, 3)] [] M Q :=
  h_196_20 hst.1 ⟨fun h2 => absurd hst.2.2.2.2.2.2.1 h2, fun _ => ⟨fun h2 => absurd h2 (by decide), fun _ => ⟨fun _ => ⟨fun _ => ⟨fun h2 => absurd rfl h2, fun _ => ⟨by omega, h _ (fun t M' L' q => h_196_65 L' (h_196_72 L' q))⟩⟩, fun h2 => absurd (by decide) h2⟩, fun h2 => absurd (by decide) h2⟩⟩⟩
theorem rm_t2 {d : Nat} {T : tk_T} {o s n cl x1 : Int} {M : am_M} {Q : List am_V → am_M → Prop} (hd : 1 ≤ d) (hst : rm_st M T o s n cl) (h : ∀ R : List am_V → am_M → Prop, (∀ t M', nm_Lay M' → am_WP d am_c196 20 [(2, 214), (0, x1), (0, t)] [] M' Q → R [(0, t)] M') → am_CL (d - 1) 195 [(2, 214)] M R) : am_WP d am_c196 20 [(2, 214), (0, x1), (0, 2)] [] M Q :=
  h_196_20 hst.1 ⟨fun h2 => absurd hst.2.2.2.2.2.2.1 h2, fun _ => ⟨fun h2 => absurd h2 (by decide), fun _ => ⟨fun _ => ⟨fun _ => ⟨fun _ => ⟨by omega, h _ (fun t M' L' q => h_196_72 L' q)⟩, fun h2 => absurd (by decide) h2⟩, fun h2 => absurd (by decide) h2⟩, fun h2 => absurd (by decide) h2⟩⟩⟩
theorem rm_fd_app : ∀ (a b : rm_L) (c : rd_F), rm_fd (a ++ b) c = rm_fd b (rm_fd a c)
  | [], _, _ => rfl
  | q :: r, b, c => rm_fd_app r b _
theorem rm_s0_app : ∀ {a b : rm_L} {c : rd_F}, rm_s0 a c → rm_s0 b (rm_fd a c) → rm_s0 (a ++ b) c
  | [], _, _, _, h => h
  | _ :: r, _, _, h1, h2 => ⟨h1.1, rm_s0_app (a := r) h1.2 h2⟩
theorem rm_s0_ne : ∀ {a : rm_L} {c : rd_F}, (∀ q ∈ a, q.1 ≠ 28) → rm_s0 a c
  | [], _, _ => trivial
  | q :: r, _, h => ⟨fun e => absurd e (h q List.mem_cons_self), rm_s0_ne (fun q' hq' => h q' (List.mem_cons_of_mem _ hq'))⟩
theorem rm_nb_app : ∀ {a b : rm_L}, (∀ q ∈ a, q.1 ≤ 30) → rm_nb (a ++ b) = rm_nb b
  | [], _, _ => rfl
  | q :: r, b, h => by
    rw [List.cons_append, rm_nb_k (h q List.mem_cons_self)]
    exact rm_nb_app (fun q' hq' => h q' (List.mem_cons_of_mem _ hq'))
theorem rm_bd_lo {op : Int} (h : 25 ≤ op) : rm_bd op < 5 := by unfold rm_bd; repeat' split
                                                               all_goals omega
theorem rm_bd_hi {op : Int} (h : op ≤ 24) : 5 ≤ rm_bd op := by unfold rm_bd; repeat' split
                                                               all_goals omega
theorem rm_bd_3 {op : Int} (h : op ≤ 28) : 3 ≤ rm_bd op := by unfold rm_bd; repeat' split
                                                              all_goals omega
theorem rm_bd_1 {op : Int} (h : op ≤ 30) : 1 ≤ rm_bd op := by unfold rm_bd; repeat' split
                                                              all_goals omega
theorem rm_bd_6 {op : Int} (h : 22 ≤ op ∧ op ≤ 24) : rm_bd op = 6 := by unfold rm_bd; repeat' split
                                                                        all_goals omega
theorem rm_bd_5 {op : Int} (h : op ≤ 21) : rm_bd op = 5 := by unfold rm_bd; repeat' split
                                                              all_goals omega
theorem rm_ap_b {op : Int} {f g : rd_F} (h : op ≤ 13) : rm_ap (op + 14) f g = nm_bin op f g := by
  unfold rm_ap; rw [if_pos (by omega), show op + 14 - 14 = op by omega]
/-- at the end of the tape there is no token -/
theorem tk_x_end {T : tk_T} {s : Int} (h : T.2 ≤ s) (h1 : s ≤ T.2) : tk_x T s = [] := by
  refine (tk_x0 h1).mp (tk_k0.mpr ?_)
  have := (tk_bb h1).1
  omega
section
variable {d : Nat} {T : tk_T} {o i0 x1 : Int} {M0 : am_M} {Q : List am_V → am_M → Prop}
/-- a part -/
theorem rm_part_th (hd : 8 ≤ d) (hT : tk_ok T) (ho : o = 0 ∨ o = 1) (sub : Option (Int → Int → rd_R)) (k : Nat) (hk : k ≤ 8) (h0 : sub = none → k = 0)
    (hs : ∀ g, sub = some g → 1 ≤ k ∧ rd_gd T g ∧ ∀ s n l, 0 ≤ s → s ≤ T.2 → 0 ≤ n → n ≤ 50 → rm_nb l = 8 - (k : Int) + 1 → (∀ q r, l = q :: r → 25 ≤ q.1) → (∀ p, g s n = .error p → rm_E M0 Q p) → (∀ f s1 n1, g s n = .ok (f, s1, n1) → rd_jn (tk_x T s1) = -1 → ∀ pend cur, (∀ q ∈ pend, 20 ≤ q.1 ∧ q.1 ≤ 24) → rm_fd pend cur = f → rm_O d T o i0 x1 M0 Q 3 s1 n1 (pend ++ l) cur) → rm_A d T o i0 x1 M0 Q 1 s n l)
    {t s n : Int} {l : rm_L} (ht : t = 1 ∨ (t = 0 ∧ tk_x T s ≠ rd_tx 30 ∧ tk_x T s ≠ rd_tx 31)) (hnb : rm_nb l = 8 - (k : Int)) (hE : ∀ p, rd_part T o sub s n = .error p → rm_E M0 Q p) (hK : ∀ f s1 n1, rd_part T o sub s n = .ok (f, s1, n1) → rm_O d T o i0 x1 M0 Q 3 s1 n1 l f) : rm_A d T o i0 x1 M0 Q t s n l := by
  intro M cl mv st P
  have t4 := hT.2.1
  have s1 := st.2.2.2.2.2.2.2.2.1
  have s0 := st.2.2.2.2.2.2.2.1
  have he := tk_se s1
  have n0 := st.2.2.2.2.2.2.2.2.2.1
  have n5 := st.2.2.2.2.2.2.2.2.2.2.1
  have part : ∀ (d' : Nat) (R : List am_V → am_M → Prop), 5 ≤ d' → (∀ t M', nm_Lay M' → am_WP d am_c196 20 [(2, 214), (0, x1), (0, t)] [] M' Q → R [(0, t)] M') → am_CL d' 192 [(2, 214)] M R := by
    intro d' R hd' hR
    refine rm_192 hd' hT ho st P (fun e8 hlt M' mv' st' P' => ?_) (fun e8 hge M' t F hb => ?_) (fun e8 f s1 n1 hok M' mv' st' P' B' => ?_) (fun e8 p herr M' t F hb => ?_)
    · refine hR _ _ st'.1 ?_
      have pb : rd_part T o sub s n = rd_brk T (rd_tx 9) sub s n := by unfold rd_part; rw [if_pos e8]
      rw [pb] at hE hK
      cases hsub : sub with
      | none => have := h0 hsub; omega
      | some g =>
        obtain ⟨k1, hgd, hg⟩ := hs g hsub
        rw [hsub] at hE hK
        refine hg (tk_e T s) n ((32, rd_0) :: l) (by omega) he.2 n0 n5 (by simp only [rm_nb]; rw [if_pos (by decide), hnb]; omega) (fun q r h => by cases h; decide) (fun p hp => hE p (by simp only [rd_brk, hp])) (fun f s2 n2 hok hj pend cur hpe hfd => ?_) M' cl (rm_mv_t mv mv') st' P'
        intro M2 cl2 i2 mv2 st2 P2 B2
        refine rm_t3 (by omega) st2 (fun R2 hR2 => rm_194s (by omega) hT st2 P2 B2 hj (fun q hq => rm_bd_hi (hpe q hq).2) (fun q hq => by have := hpe q hq; omega) (rm_s0_ne (fun q hq => by have := hpe q hq; omega)) (fun e9 M3 cl3 i3 mv3 st3 P3 B3 => ?_) (fun e9 M3 t F3 hb => ?_))
        · refine hR2 _ _ st3.1 (hK f (tk_e T s2) n2 (by simp only [rd_brk, hok, e9, if_true]) M3 cl3 i3 (rm_mv_t mv2 mv3) st3 P3 ?_)
          rw [← hfd]; exact B3
        · exact hR2 _ _ hb.1 (rm_bad (by omega) (nm_Fr_trans (nm_Fr_sub mv2.1 (by decide)) F3) hb (hE _ (by simp only [rd_brk, hok, e9, if_false])))
    · refine hR _ _ hb.1 (rm_bad (by omega) (nm_Fr_trans (nm_Fr_sub mv.1 (by decide)) F) hb (hE _ ?_))
      unfold rd_part; rw [if_pos e8]
      cases hsub : sub with
      | none => rfl
      | some g => have := (hs g hsub).1; omega
    · exact hR _ _ st'.1 (hK f s1 n1 (by unfold rd_part; rw [if_neg e8]; exact hok) M' (cl + 1) cl (rm_mv_t mv mv') st' P' B')
    · exact hR _ _ hb.1 (rm_bad (by omega) (nm_Fr_trans (nm_Fr_sub mv.1 (by decide)) F) hb (hE _ (by unfold rd_part; rw [if_neg e8]; exact herr)))
  rcases ht with rfl | ⟨rfl, e30, e31⟩
  · exact rm_t1 (by omega) st (fun R hR => part (d - 1) R (by omega) hR)
  · exact rm_t0 (by omega) st (fun R hR => rm_193 (by omega) hT st P (fun h => absurd h e30) (fun h => absurd h e31) (fun h => absurd h e31) (fun _ _ R2 hR2 => part (d - 1 - 1) R2 (by omega) (fun t M' L' q => hR2 t M' L' (hR t M' L' q))))
/-- a sum -/
theorem rm_sumw_th (hd : 8 ≤ d) (hT : tk_ok T) {part : Int → Int → rd_R} (hgd : rd_gd T part) {nb : Int}
    (hp : ∀ t s n l, (t = 1 ∨ (t = 0 ∧ tk_x T s ≠ rd_tx 30 ∧ tk_x T s ≠ rd_tx 31)) → rm_nb l = nb → (∀ p, part s n = .error p → rm_E M0 Q p) → (∀ f s1 n1, part s n = .ok (f, s1, n1) → rm_O d T o i0 x1 M0 Q 3 s1 n1 l f) → rm_A d T o i0 x1 M0 Q t s n l)
    {t s n : Int} {l : rm_L} (h0 : 0 ≤ s) (h1 : s ≤ T.2) (n0 : 0 ≤ n) (n5 : n ≤ 50) (ht : t = 1 ∨ (t = 0 ∧ tk_x T s ≠ rd_tx 30 ∧ tk_x T s ≠ rd_tx 31)) (hnb : rm_nb l = nb) (htop : ∀ q r, l = q :: r → 25 ≤ q.1) (hE : ∀ p, rd_sumw T part s n = .error p → rm_E M0 Q p)
    (hK : ∀ f s1 n1, rd_sumw T part s n = .ok (f, s1, n1) → rd_jn (tk_x T s1) = -1 → ∀ pend cur, (∀ q ∈ pend, 20 ≤ q.1 ∧ q.1 ≤ 24) → rm_fd pend cur = f → rm_O d T o i0 x1 M0 Q 3 s1 n1 (pend ++ l) cur) : rm_A d T o i0 x1 M0 Q t s n l := by
  have t4 := hT.2.1
  have loop : ∀ (m : Nat) (acc : Option (Int × rd_F)) (curp cur : rd_F) (mulp accp : rm_L) (s1 n1 : Int), 0 ≤ s1 → s1 ≤ T.2 → 0 ≤ n1 → n1 ≤ 50 → 400 ≤ (m : Int) + s1 → (∀ q ∈ mulp, 22 ≤ q.1 ∧ q.1 ≤ 24) → rm_fd mulp cur = curp → (∀ q ∈ accp, 20 ≤ q.1 ∧ q.1 ≤ 21) → (∀ c, rm_fd accp c = rd_cl acc c) → rd_sumw T part s n = rd_suml T part m acc curp s1 n1 → rm_O d T o i0 x1 M0 Q 3 s1 n1 (mulp ++ (accp ++ l)) cur := by
    intro m
    -- no joiner: the sum is read
    have done : ∀ (acc : Option (Int × rd_F)) (curp cur : rd_F) (mulp accp : rm_L) (s1 n1 : Int), rd_jn (tk_x T s1) = -1 → (∀ q ∈ mulp, 22 ≤ q.1 ∧ q.1 ≤ 24) → rm_fd mulp cur = curp → (∀ q ∈ accp, 20 ≤ q.1 ∧ q.1 ≤ 21) → (∀ c, rm_fd accp c = rd_cl acc c) → rd_sumw T part s n = .ok (rd_cl acc curp, s1, n1) → rm_O d T o i0 x1 M0 Q 3 s1 n1 (mulp ++ (accp ++ l)) cur := by
      intro acc curp cur mulp accp s1 n1 hj hm hmc ha hac heq
      rw [← List.append_assoc]
      refine hK _ _ _ heq hj (mulp ++ accp) cur (fun q hq => ?_) ?_
      · rcases List.mem_append.mp hq with h | h
        · have := hm q h; omega
        · have := ha q h; omega
      · rw [rm_fd_app, hmc, hac]
    induction m with
    | zero =>
      intro acc curp cur mulp accp s1 n1 a1 a2 a3 a4 hm4 hm hmc ha hac heq
      refine done acc curp cur mulp accp s1 n1 ?_ hm hmc ha hac heq
      rw [tk_x_end (by omega) a2]; decide +kernel
    | succ m ih =>
      intro acc curp cur mulp accp s1 n1 a1 a2 a3 a4 hm4 hm hmc ha hac heq
      simp only [rd_suml] at heq
      by_cases hj : rd_jn (tk_x T s1) = -1
      · rw [if_pos hj] at heq
        exact done acc curp cur mulp accp s1 n1 hj hm hmc ha hac heq
      · rw [if_neg hj] at heq
        have he := tk_se a2
        obtain ⟨jx, j6, j10⟩ : tk_x T s1 ≠ [] ∧ 6 ≤ rd_jn (tk_x T s1) ∧ rd_jn (tk_x T s1) ≤ 10 := by
          rcases rd_jn_n (tk_x T s1) with e | e
          · exact absurd e hj
          · exact e
        have adv := tk_adv a2 jx
        intro M cl i mv st P B
        by_cases h7 : rd_jn (tk_x T s1) ≤ 7
        · have hb5 : rm_bd (rd_jn (tk_x T s1) + 14) = 5 := rm_bd_5 (by omega)
          rw [← List.append_assoc] at P
          refine rm_t3 (by omega) st (fun R hR => rm_194j (by omega) hT st P B hj (fun q hq => ?_) (rm_s0_ne (fun q hq => ?_)) (fun q r h => ?_) (fun M' cl' mv' st' P' => hR _ _ st'.1 ?_))
          · rw [hb5]
            rcases List.mem_append.mp hq with h | h
            · exact rm_bd_hi (by have := hm q h; omega)
            · exact rm_bd_hi (by have := ha q h; omega)
          · rcases List.mem_append.mp hq with h | h
            · have := hm q h; omega
            · have := ha q h; omega
          · rw [hb5]; exact rm_bd_lo (htop q r h)
          · rw [rm_fd_app, hmc, hac] at P'
            refine hp 1 (tk_e T s1) n1 ((rd_jn (tk_x T s1) + 14, rd_cl acc curp) :: l) (.inl rfl) (by rw [rm_nb_k (by show rd_jn (tk_x T s1) + 14 ≤ 30; omega)]; exact hnb) (fun p hpe => hE p (by rw [heq, hpe])) (fun f s2 n2 hok => ?_) M' cl' (rm_mv_t mv mv') st' P'
            rw [hok] at heq
            simp only [if_pos h7] at heq
            have g := hgd _ _ _ _ _ (by omega) he.2 a3 a4 hok
            exact ih (some (rd_jn (tk_x T s1), rd_cl acc curp)) f f [] [(rd_jn (tk_x T s1) + 14, rd_cl acc curp)] s2 n2 (by omega) g.2.1 g.2.2.1 g.2.2.2 (by omega) (fun q hq => by cases hq) rfl (fun q hq => by rw [List.mem_singleton.mp hq]; show 20 ≤ rd_jn (tk_x T s1) + 14 ∧ rd_jn (tk_x T s1) + 14 ≤ 21; omega) (fun c => rm_ap_b (by omega)) heq
        · have hb6 : rm_bd (rd_jn (tk_x T s1) + 14) = 6 := rm_bd_6 (by omega)
          refine rm_t3 (by omega) st (fun R hR => rm_194j (by omega) hT st P B hj (fun q hq => ?_) (rm_s0_ne (fun q hq => ?_)) (fun q r h => ?_) (fun M' cl' mv' st' P' => hR _ _ st'.1 ?_))
          · rw [hb6, rm_bd_6 (hm q hq)]; exact Int.le_refl _
          · have := hm q hq; omega
          · rw [hb6]
            cases accp with
            | nil => have := rm_bd_lo (htop q r h); omega
            | cons a as =>
              have := ha a List.mem_cons_self
              have e : a = q := by rw [List.cons_append] at h; cases h; rfl
              rw [← e, rm_bd_5 (by omega)]; decide
          · rw [hmc] at P'
            refine hp 1 (tk_e T s1) n1 ((rd_jn (tk_x T s1) + 14, curp) :: (accp ++ l)) (.inl rfl) ?_ (fun p hpe => hE p (by rw [heq, hpe])) (fun f s2 n2 hok => ?_) M' cl' (rm_mv_t mv mv') st' P'
            · rw [rm_nb_k (by show rd_jn (tk_x T s1) + 14 ≤ 30; omega), rm_nb_app (fun q hq => by have := ha q hq; omega)]; exact hnb
            rw [hok] at heq
            simp only [if_neg h7] at heq
            have g := hgd _ _ _ _ _ (by omega) he.2 a3 a4 hok
            exact ih acc (nm_bin (rd_jn (tk_x T s1)) curp f) f [(rd_jn (tk_x T s1) + 14, curp)] accp s2 n2 (by omega) g.2.1 g.2.2.1 g.2.2.2 (by omega) (fun q hq => by rw [List.mem_singleton.mp hq]; show 22 ≤ rd_jn (tk_x T s1) + 14 ∧ rd_jn (tk_x T s1) + 14 ≤ 24; omega) (rm_ap_b (by omega)) ha hac heq
  refine hp t s n l ht hnb (fun p hpe => hE p (by unfold rd_sumw; rw [hpe])) (fun f s1 n1 hok => ?_)
  have g := hgd _ _ _ _ _ h0 h1 n0 n5 hok
  exact loop 400 none f f [] [] s1 n1 (by omega) g.2.1 g.2.2.1 g.2.2.2 (by omega) (fun q hq => by cases hq) rfl (fun q hq => by cases hq) (fun c => rfl) (by unfold rd_sumw; rw [hok])
theorem rm_sum_th (hd : 8 ≤ d) (hT : tk_ok T) (ho : o = 0 ∨ o = 1) : ∀ (k : Nat), k ≤ 8 → ∀ (t s n : Int) (l : rm_L), 0 ≤ s → s ≤ T.2 → 0 ≤ n → n ≤ 50 → (t = 1 ∨ (t = 0 ∧ tk_x T s ≠ rd_tx 30 ∧ tk_x T s ≠ rd_tx 31)) → rm_nb l = 8 - (k : Int) → (∀ q r, l = q :: r → 25 ≤ q.1) → (∀ p, rd_sum T o k s n = .error p → rm_E M0 Q p) → (∀ f s1 n1, rd_sum T o k s n = .ok (f, s1, n1) → rd_jn (tk_x T s1) = -1 → ∀ pend cur, (∀ q ∈ pend, 20 ≤ q.1 ∧ q.1 ≤ 24) → rm_fd pend cur = f → rm_O d T o i0 x1 M0 Q 3 s1 n1 (pend ++ l) cur) → rm_A d T o i0 x1 M0 Q t s n l
  | 0, hk, t, s, n, l, h0, h1, n0, n5, ht, hnb, htop, hE, hK =>
    rm_sumw_th hd hT (rd_part_gd (fun g h => by cases h)) (fun t s n l ht hnb hE hK => rm_part_th hd hT ho none 0 (by omega) (fun _ => rfl) (fun g h => by cases h) ht hnb hE hK) h0 h1 n0 n5 ht hnb htop hE hK
  | k + 1, hk, t, s, n, l, h0, h1, n0, n5, ht, hnb, htop, hE, hK =>
    rm_sumw_th hd hT (rd_part_gd (fun g h => by cases h; exact rd_sum_gd T o k)) (fun t s n l ht hnb hE hK => rm_part_th hd hT ho (some (rd_sum T o k)) (k + 1) hk (fun h => by cases h) (fun g h => by
      cases h
      exact ⟨by omega, rd_sum_gd T o k, fun s n l a1 a2 a3 a4 a5 a6 a7 a8 => rm_sum_th hd hT ho k (by omega) 1 s n l a1 a2 a3 a4 (.inl rfl) (by omega) a6 a7 a8⟩) ht hnb hE hK) h0 h1 n0 n5 ht hnb htop hE hK
/-- nots -/
def rm_nn (j : Nat) : rm_L := List.replicate j (28, rd_0)
theorem rm_nn_28 {j : Nat} {q : Int × rd_F} (h : q ∈ rm_nn j) : q.1 = 28 := by
  have := List.eq_of_mem_replicate h
  rw [this]
theorem rm_nn_fd : ∀ (j : Nat) (f : rd_F) (b : Int), b = ((j % 2 : Nat) : Int) → rm_fd (rm_nn j) f = rd_nt b f
  | 0, f, b, h => by
    show f = _
    unfold rd_nt; rw [if_pos (by omega)]
  | j + 1, f, b, h => by
    show rm_fd (rm_nn j) (rm_ap 28 rd_0 f) = _
    rw [rm_nn_fd j _ (1 - b) (by omega), show rm_ap 28 rd_0 f = nm_not f from rfl]
    unfold rd_nt
    by_cases hb : b = 0
    · rw [if_pos hb, if_neg (by omega), nm_not2]
    · rw [if_neg hb, if_pos (by omega)]
theorem rm_nn_s0 : ∀ (j : Nat) (f : rd_F), nm_b01 f → rm_s0 (rm_nn j) f
  | 0, _, _ => trivial
  | j + 1, f, h => ⟨fun _ => h, rm_nn_s0 j _ (nm_b01_not h)⟩
theorem rm_plain_th (hd : 8 ≤ d) (hT : tk_ok T) {sum : Int → Int → rd_R} {sub : Option (Int → Int → rd_R)} (k : Nat) (hk : k ≤ 8) (h0s : sub = none → k = 0) (hgs : rd_gd T sum)
    (hsum : ∀ t s n l, 0 ≤ s → s ≤ T.2 → 0 ≤ n → n ≤ 50 → (t = 1 ∨ (t = 0 ∧ tk_x T s ≠ rd_tx 30 ∧ tk_x T s ≠ rd_tx 31)) → rm_nb l = 8 - (k : Int) → (∀ q r, l = q :: r → 25 ≤ q.1) → (∀ p, sum s n = .error p → rm_E M0 Q p) → (∀ f s1 n1, sum s n = .ok (f, s1, n1) → rd_jn (tk_x T s1) = -1 → ∀ pend cur, (∀ q ∈ pend, 20 ≤ q.1 ∧ q.1 ≤ 24) → rm_fd pend cur = f → rm_O d T o i0 x1 M0 Q 3 s1 n1 (pend ++ l) cur) → rm_A d T o i0 x1 M0 Q t s n l)
    (hs : ∀ g, sub = some g → 1 ≤ k ∧ rd_01 g ∧ ∀ s n l, 0 ≤ s → s ≤ T.2 → 0 ≤ n → n ≤ 50 → rm_nb l = 8 - (k : Int) + 1 → (∀ q r, l = q :: r → q.1 = 31) → (l = [] → x1 ≠ 0) → (∀ p, g s n = .error p → rm_E M0 Q p) → (∀ f s1 n1, g s n = .ok (f, s1, n1) → tk_x T s1 ≠ rd_tx 36 → tk_x T s1 ≠ rd_tx 37 → ∀ pend cur, (∀ q ∈ pend, 20 ≤ q.1 ∧ q.1 ≤ 30) → rm_s0 pend cur → rm_fd pend cur = f → rm_O d T o i0 x1 M0 Q 2 s1 n1 (pend ++ l) cur) → rm_A d T o i0 x1 M0 Q 0 s n l)
    {s n : Int} {l : rm_L} (h0 : 0 ≤ s) (h1 : s ≤ T.2) (n0 : 0 ≤ n) (n5 : n ≤ 50) (hnb : rm_nb l = 8 - (k : Int)) (htop : ∀ q r, l = q :: r → 28 ≤ q.1) (hin : rm_in l ≠ 32) (hx : rm_in l = -1 → x1 ≠ 0) (hE : ∀ p, rd_pln T sum sub s n = .error p → rm_E M0 Q p)
    (hK : ∀ f s1 n1, rd_pln T sum sub s n = .ok (f, s1, n1) → ∀ pend cur, (∀ q ∈ pend, 20 ≤ q.1 ∧ q.1 ≤ 28) → rm_s0 pend cur → rm_fd pend cur = f → rm_O d T o i0 x1 M0 Q 2 s1 n1 (pend ++ l) cur) : rm_A d T o i0 x1 M0 Q 0 s n l := by
  have t4 := hT.2.1
  have nn30 : ∀ (j : Nat) (q : Int × rd_F), q ∈ rm_nn j → q.1 ≤ 30 := fun j q hq => by rw [rm_nn_28 hq]; decide
  have topn : ∀ (j : Nat) (q : Int × rd_F) (r : rm_L), rm_nn j ++ l = q :: r → 28 ≤ q.1 := by
    intro j q r h
    cases j with
    | zero => exact htop q r h
    | succ j =>
      have : (28, rd_0) = q := by
        have h' : (28, rd_0) :: (rm_nn j ++ l) = q :: r := h
        cases h'; rfl
      rw [← this]; decide
  have loop : ∀ (m : Nat) (b s1 : Int) (j : Nat), 0 ≤ s1 → s1 ≤ T.2 → 400 ≤ (m : Int) + s1 → rd_nots T 400 0 s = rd_nots T m b s1 → b = ((j % 2 : Nat) : Int) → rm_A d T o i0 x1 M0 Q 0 s1 n (rm_nn j ++ l) := by
    intro m
    have body : ∀ (b s1 : Int) (j : Nat), 0 ≤ s1 → s1 ≤ T.2 → tk_x T s1 ≠ rd_tx 30 → rd_nots T 400 0 s = (b, s1) → b = ((j % 2 : Nat) : Int) → rm_A d T o i0 x1 M0 Q 0 s1 n (rm_nn j ++ l) := by
      intro b s1 j a0 a1 e30 hnot hb
      have he := tk_se a1
      have hE' : ∀ p, rd_pl1 T sum sub s1 n = .error p → rm_E M0 Q p := fun p h => hE p (by unfold rd_pln; rw [hnot]; simp only; rw [h])
      have hK' : ∀ f s2 n2, rd_pl1 T sum sub s1 n = .ok (f, s2, n2) → rd_pln T sum sub s n = .ok (rd_nt b f, s2, n2) := fun f s2 n2 h => by unfold rd_pln; rw [hnot]; simp only; rw [h]
      by_cases e31 : tk_x T s1 = rd_tx 31
      · have pb : rd_pl1 T sum sub s1 n = rd_brk T (rd_tx 32) sub s1 n := by unfold rd_pl1; rw [if_pos e31]
        rw [pb] at hE'
        intro M cl mv st P
        refine rm_t0 (by omega) st (fun R hR => rm_193 (by omega) hT st P (fun h => absurd h e30) (fun _ hlt M' mv' st' P' => hR _ _ st'.1 ?_) (fun _ hge M' t F hb => ?_) (fun _ h => absurd e31 h))
        · cases hsub : sub with
          | none =>
            have := h0s hsub
            rw [rm_nb_app (nn30 j), hnb] at hlt; omega
          | some g =>
            obtain ⟨k1, hg01, hg⟩ := hs g hsub
            rw [hsub] at hE'
            refine hg (tk_e T s1) n ((31, rd_0) :: (rm_nn j ++ l)) (by omega) he.2 n0 n5 ?_ (fun q r h => by cases h; rfl) (fun h => by cases h) (fun p hp => hE' p (by simp only [rd_brk, hp])) (fun f s2 n2 hok e36 e37 pend cur hpe hs0 hfd => ?_) M' cl (rm_mv_t mv mv') st' P'
            · simp only [rm_nb]; rw [if_pos (by decide), rm_nb_app (nn30 j), hnb]; omega
            intro M2 cl2 i2 mv2 st2 P2 B2
            refine rm_t2 (by omega) st2 (fun R2 hR2 => rm_195b (by omega) hT st2 P2 B2 e36 e37 (fun q hq => rm_bd_1 (hpe q hq).2) (fun q hq => (hpe q hq).2) hs0 (fun e32 M3 cl3 i3 mv3 st3 P3 B3 => ?_) (fun e32 M3 t F3 hb3 => ?_))
            · refine hR2 _ _ st3.1 (hK _ _ _ (hK' f (tk_e T s2) n2 (by rw [pb, hsub]; simp only [rd_brk, hok, e32, if_true])) (rm_nn j) f (fun q hq => by rw [rm_nn_28 hq]; decide) (rm_nn_s0 j f (hg01 _ _ _ _ _ hok)) (rm_nn_fd j f b hb) M3 cl3 i3 (rm_mv_t mv2 mv3) st3 P3 ?_)
              rw [← hfd]; exact B3
            · exact hR2 _ _ hb3.1 (rm_bad (by omega) (nm_Fr_trans (nm_Fr_sub mv2.1 (by decide)) F3) hb3 (hE' _ (by simp only [rd_brk, hok, e32, if_false])))
        · refine hR _ _ hb.1 (rm_bad (by omega) (nm_Fr_trans (nm_Fr_sub mv.1 (by decide)) F) hb (hE' _ ?_))
          cases hsub : sub with
          | none => rfl
          | some g =>
            have := (hs g hsub).1
            rw [rm_nb_app (nn30 j), hnb] at hge; omega
      · have pb : rd_pl1 T sum sub s1 n = rd_cmp T sum s1 n := by unfold rd_pl1; rw [if_neg e31]
        rw [pb] at hE'
        refine hsum 0 s1 n (rm_nn j ++ l) a0 a1 n0 n5 (.inr ⟨rfl, e30, e31⟩) (by rw [rm_nb_app (nn30 j)]; exact hnb) (fun q r h => by have := topn j q r h; omega) (fun p hp => hE' p (by unfold rd_cmp; rw [hp])) (fun f s2 n2 hok hj pend cur hpe hfd => ?_)
        have gd1 := hgs _ _ _ _ _ a0 a1 n0 n5 hok
        have he2 := tk_se gd1.2.1
        have inl : rm_in (pend ++ (rm_nn j ++ l)) = rm_in l := by rw [rm_in_app (fun q hq => by have := hpe q hq; omega), rm_in_app (nn30 j)]
        have cpf : rm_cp (pend ++ (rm_nn j ++ l)) = false := by
          rw [rm_cp_app (fun q hq => (hpe q hq).2)]
          cases hl : rm_nn j ++ l with
          | nil => rfl
          | cons q r =>
            have := topn j q r hl
            simp only [rm_cp]
            rw [if_neg (by omega)]
            exact decide_eq_false (by omega)
        intro M cl i mv st P B
        refine rm_t3 (by omega) st (fun R hR => rm_194c (by omega) hT st P B hj (by rw [inl]; exact hin) (by rw [inl]; exact hx) cpf (fun q hq => rm_bd_hi (hpe q hq).2) (rm_s0_ne (fun q hq => by have := hpe q hq; omega)) (fun q r h => rm_bd_lo (by have := topn j q r h; omega)) (fun hcm M' cl' mv' st' P' => hR _ _ st'.1 ?_) (fun hcm M' t F hb => hR _ _ hb.1 (rm_bad (by omega) (nm_Fr_trans (nm_Fr_sub mv.1 (by decide)) F) hb (hE' _ (by unfold rd_cmp; rw [hok]; simp only; rw [if_pos hcm])))))
        obtain ⟨cx, c11, c13⟩ : tk_x T s2 ≠ [] ∧ 11 ≤ rd_cm (tk_x T s2) ∧ rd_cm (tk_x T s2) ≤ 13 := by
          rcases rd_cm_n (tk_x T s2) with e | e
          · exact absurd e hcm
          · exact e
        rw [hfd] at P'
        refine hsum 1 (tk_e T s2) n2 ((rd_cm (tk_x T s2) + 14, f) :: (rm_nn j ++ l)) (by omega) he2.2 gd1.2.2.1 gd1.2.2.2 (.inl rfl) (by rw [rm_nb_k (by show rd_cm (tk_x T s2) + 14 ≤ 30; omega), rm_nb_app (nn30 j)]; exact hnb) (fun q r h => by cases h; show 25 ≤ rd_cm (tk_x T s2) + 14; omega) (fun p hp => hE' p (by unfold rd_cmp; rw [hok]; simp only; rw [if_neg hcm, hp])) (fun f4 s4 n4 hok4 hj4 pend4 cur4 hpe4 hfd4 => ?_) M' cl' (rm_mv_t mv mv') st' P'
        intro M2 cl2 i2 mv2 st2 P2 B2
        have inl2 : rm_in (pend4 ++ (rd_cm (tk_x T s2) + 14, f) :: (rm_nn j ++ l)) = rm_in l := by
          rw [rm_in_app (fun q hq => by have := hpe4 q hq; omega)]
          simp only [rm_in]
          rw [if_neg (by omega), rm_in_app (nn30 j)]
        have cpt : rm_cp (pend4 ++ (rd_cm (tk_x T s2) + 14, f) :: (rm_nn j ++ l)) = true := by
          rw [rm_cp_app (fun q hq => (hpe4 q hq).2)]
          simp only [rm_cp]
          rw [if_neg (by omega)]
          exact decide_eq_true (by omega)
        have eq1 := hK' (nm_bin (rd_cm (tk_x T s2)) f f4) s4 n4 (by rw [pb]; unfold rd_cmp; rw [hok]; simp only; rw [if_neg hcm, hok4])
        have fd1 : rm_fd (pend4 ++ [(rd_cm (tk_x T s2) + 14, f)]) cur4 = nm_bin (rd_cm (tk_x T s2)) f f4 := by
          rw [rm_fd_app, hfd4]; exact rm_ap_b (by omega)
        have fin := hK _ _ _ eq1 (pend4 ++ [(rd_cm (tk_x T s2) + 14, f)] ++ rm_nn j) cur4 (fun q hq => ?_) (rm_s0_app (rm_s0_ne (fun q hq => ?_)) (by rw [fd1]; exact rm_nn_s0 j _ (nm_b01_cm c11))) (by rw [rm_fd_app, fd1]; exact rm_nn_fd j _ b hb)
        · refine rm_t3 (by omega) st2 (fun R2 hR2 => rm_194t (by omega) hT st2 P2 hj4 (by rw [inl2]; exact hin) (by rw [inl2]; exact hx) cpt (hR2 _ _ st2.1 (fin M2 cl2 i2 mv2 st2 ?_ B2)))
          rw [show pend4 ++ [(rd_cm (tk_x T s2) + 14, f)] ++ rm_nn j ++ l = pend4 ++ (rd_cm (tk_x T s2) + 14, f) :: (rm_nn j ++ l) by simp]
          exact P2
        · rcases List.mem_append.mp hq with h | h
          · rcases List.mem_append.mp h with h | h
            · have := hpe4 q h; omega
            · rw [List.mem_singleton.mp h]; show 20 ≤ rd_cm (tk_x T s2) + 14 ∧ rd_cm (tk_x T s2) + 14 ≤ 28; omega
          · rw [rm_nn_28 h]; decide
        · rcases List.mem_append.mp hq with h | h
          · have := hpe4 q h; omega
          · rw [List.mem_singleton.mp h]; show rd_cm (tk_x T s2) + 14 ≠ 28; omega
    induction m with
    | zero =>
      intro b s1 j a0 a1 hm hnot hb
      refine body b s1 j a0 a1 ?_ hnot hb
      rw [tk_x_end (by omega) a1]; decide +kernel
    | succ m ih =>
      intro b s1 j a0 a1 hm hnot hb
      rw [show rd_nots T (m + 1) b s1 = (if tk_x T s1 = rd_tx 30 then rd_nots T m (1 - b) (tk_e T s1) else (b, s1)) from rfl] at hnot
      by_cases e30 : tk_x T s1 = rd_tx 30
      · rw [if_pos e30] at hnot
        have adv := tk_advx 30 (by decide) a1 e30
        have he := tk_se a1
        have e31 : tk_x T s1 ≠ rd_tx 31 := fun h => absurd (e30.symm.trans h) (by decide +kernel)
        intro M cl mv st P
        refine rm_t0 (by omega) st (fun R hR => rm_193 (by omega) hT st P (fun _ M' mv' st' P' => hR _ _ st'.1 ?_) (fun h => absurd h e31) (fun h => absurd h e31) (fun h => absurd e30 h))
        exact ih (1 - b) (tk_e T s1) (j + 1) (by omega) he.2 (by omega) hnot (by omega) M' cl (rm_mv_t mv mv') st' P'
      · rw [if_neg e30] at hnot
        exact body b s1 j a0 a1 e30 hnot hb
  exact loop 400 0 s 0 h0 h1 (by omega) rfl rfl
theorem rm_testw_th (hd : 8 ≤ d) (hT : tk_ok T) {pl : Int → Int → rd_R} (hgd : rd_gd T pl) {nb : Int}
    (hp : ∀ s n l, 0 ≤ s → s ≤ T.2 → 0 ≤ n → n ≤ 50 → rm_nb l = nb → (∀ q r, l = q :: r → 28 ≤ q.1) → rm_in l ≠ 32 → (rm_in l = -1 → x1 ≠ 0) → (∀ p, pl s n = .error p → rm_E M0 Q p) → (∀ f s1 n1, pl s n = .ok (f, s1, n1) → ∀ pend cur, (∀ q ∈ pend, 20 ≤ q.1 ∧ q.1 ≤ 28) → rm_s0 pend cur → rm_fd pend cur = f → rm_O d T o i0 x1 M0 Q 2 s1 n1 (pend ++ l) cur) → rm_A d T o i0 x1 M0 Q 0 s n l)
    {s n : Int} {l : rm_L} (h0 : 0 ≤ s) (h1 : s ≤ T.2) (n0 : 0 ≤ n) (n5 : n ≤ 50) (hnb : rm_nb l = nb) (htop : ∀ q r, l = q :: r → q.1 = 31) (hx : l = [] → x1 ≠ 0) (hE : ∀ p, rd_testw T pl s n = .error p → rm_E M0 Q p)
    (hK : ∀ f s1 n1, rd_testw T pl s n = .ok (f, s1, n1) → tk_x T s1 ≠ rd_tx 36 → tk_x T s1 ≠ rd_tx 37 → ∀ pend cur, (∀ q ∈ pend, 20 ≤ q.1 ∧ q.1 ≤ 30) → rm_s0 pend cur → rm_fd pend cur = f → rm_O d T o i0 x1 M0 Q 2 s1 n1 (pend ++ l) cur) : rm_A d T o i0 x1 M0 Q 0 s n l := by
  have t4 := hT.2.1
  have inl : rm_in l ≠ 32 ∧ (rm_in l = -1 → x1 ≠ 0) := by
    cases hl : l with
    | nil => exact ⟨by decide, fun _ => hx hl⟩
    | cons q r =>
      have := htop q r hl
      simp only [rm_in]
      rw [if_pos (by omega)]
      exact ⟨by omega, fun h => by omega⟩
  have topl : ∀ q r, l = q :: r → rm_bd q.1 < 1 := fun q r h => by rw [htop q r h]; decide
  have loop : ∀ (m : Nat) (oA aA : Option rd_F) (curp cur : rd_F) (pend aF oF : rm_L) (s1 n1 : Int), 0 ≤ s1 → s1 ≤ T.2 → 0 ≤ n1 → n1 ≤ 50 → 400 ≤ (m : Int) + s1 → (∀ q ∈ pend, 20 ≤ q.1 ∧ q.1 ≤ 28) → rm_s0 pend cur → rm_fd pend cur = curp → (∀ q ∈ aF, q.1 = 29) → (∀ c, rm_fd aF c = rd_ca aA c) → (∀ q ∈ oF, q.1 = 30) → (∀ c, rm_fd oF c = rd_co oA c) → rd_testw T pl s n = rd_testl T pl m oA aA curp s1 n1 → rm_O d T o i0 x1 M0 Q 2 s1 n1 (pend ++ (aF ++ (oF ++ l))) cur := by
    intro m
    have done : ∀ (oA aA : Option rd_F) (curp cur : rd_F) (pend aF oF : rm_L) (s1 n1 : Int), tk_x T s1 ≠ rd_tx 36 → tk_x T s1 ≠ rd_tx 37 → (∀ q ∈ pend, 20 ≤ q.1 ∧ q.1 ≤ 28) → rm_s0 pend cur → rm_fd pend cur = curp → (∀ q ∈ aF, q.1 = 29) → (∀ c, rm_fd aF c = rd_ca aA c) → (∀ q ∈ oF, q.1 = 30) → (∀ c, rm_fd oF c = rd_co oA c) → rd_testw T pl s n = .ok (rd_co oA (rd_ca aA curp), s1, n1) → rm_O d T o i0 x1 M0 Q 2 s1 n1 (pend ++ (aF ++ (oF ++ l))) cur := by
      intro oA aA curp cur pend aF oF s1 n1 e36 e37 hpe hs0 hfd ha hac ho hoc heq
      have := hK _ _ _ heq e36 e37 (pend ++ (aF ++ oF)) cur (fun q hq => ?_) (rm_s0_app hs0 (rm_s0_ne (fun q hq => ?_))) (by rw [rm_fd_app, rm_fd_app, hfd, hac, hoc])
      · rw [show pend ++ (aF ++ oF) ++ l = pend ++ (aF ++ (oF ++ l)) by simp] at this; exact this
      · rcases List.mem_append.mp hq with h | h
        · have := hpe q h; omega
        · rcases List.mem_append.mp h with h | h
          · have := ha q h; omega
          · have := ho q h; omega
      · rcases List.mem_append.mp hq with h | h
        · have := ha q h; omega
        · have := ho q h; omega
    induction m with
    | zero =>
      intro oA aA curp cur pend aF oF s1 n1 a0 a1 a3 a4 hm hpe hs0 hfd ha hac ho hoc heq
      have hx0 := tk_x_end (T := T) (s := s1) (by omega) a1
      exact done oA aA curp cur pend aF oF s1 n1 (by rw [hx0]; decide +kernel) (by rw [hx0]; decide +kernel) hpe hs0 hfd ha hac ho hoc heq
    | succ m ih =>
      intro oA aA curp cur pend aF oF s1 n1 a0 a1 a3 a4 hm hpe hs0 hfd ha hac ho hoc heq
      simp only [rd_testl] at heq
      have he := tk_se a1
      by_cases e36 : tk_x T s1 = rd_tx 36
      · rw [if_pos e36] at heq
        have adv := tk_advx 36 (by decide) a1 e36
        intro M cl i mv st P B
        rw [← List.append_assoc] at P
        refine rm_t2 (by omega) st (fun R hR => rm_195a (.inl ⟨rfl, rfl, rfl⟩) (by omega) hT st P B e36 (fun q hq => ?_) (rm_s0_app hs0 (rm_s0_ne (fun q hq => by have := ha q hq; omega))) (fun q r h => ?_) (fun M' cl' mv' st' P' => hR _ _ st'.1 ?_))
        · rcases List.mem_append.mp hq with h | h
          · have := rm_bd_3 (hpe q h).2; omega
          · rw [ha q h]; decide
        · cases oF with
          | nil => have := topl q r h; omega
          | cons a as =>
            have e : a = q := by rw [List.cons_append] at h; cases h; rfl
            rw [← e, ho a List.mem_cons_self]; decide
        · rw [rm_fd_app, hfd, hac] at P'
          have inL : rm_in ((29, rd_ca aA curp) :: (oF ++ l)) = rm_in l := by
            simp only [rm_in]; rw [if_neg (by decide), rm_in_app (fun q hq => by have := ho q hq; omega)]
          refine hp (tk_e T s1) n1 ((29, rd_ca aA curp) :: (oF ++ l)) (by omega) he.2 a3 a4 (by rw [rm_nb_k (by show (29 : Int) ≤ 30; decide), rm_nb_app (fun q hq => by have := ho q hq; omega)]; exact hnb) (fun q r h => by cases h; show (28 : Int) ≤ 29; decide) (by rw [inL]; exact inl.1) (by rw [inL]; exact inl.2) (fun p hpe => hE p (by rw [heq, hpe])) (fun f s2 n2 hok pend2 cur2 hpe2 hs2 hfd2 => ?_) M' cl' (rm_mv_t mv mv') st' P'
          rw [hok] at heq
          have g := hgd _ _ _ _ _ (by omega) he.2 a3 a4 hok
          exact ih oA (some (rd_ca aA curp)) f cur2 pend2 [(29, rd_ca aA curp)] oF s2 n2 (by omega) g.2.1 g.2.2.1 g.2.2.2 (by omega) hpe2 hs2 hfd2 (fun q hq => by rw [List.mem_singleton.mp hq]) (fun c => rfl) ho hoc heq
      · rw [if_neg e36] at heq
        by_cases e37 : tk_x T s1 = rd_tx 37
        · rw [if_pos e37] at heq
          have adv := tk_advx 37 (by decide) a1 e37
          intro M cl i mv st P B
          rw [show pend ++ (aF ++ (oF ++ l)) = pend ++ (aF ++ oF) ++ l by simp] at P
          refine rm_t2 (by omega) st (fun R hR => rm_195a (.inr ⟨rfl, rfl, rfl⟩) (by omega) hT st P B e37 (fun q hq => ?_) (rm_s0_app hs0 (rm_s0_ne (fun q hq => ?_))) topl (fun M' cl' mv' st' P' => hR _ _ st'.1 ?_))
          · rcases List.mem_append.mp hq with h | h
            · exact rm_bd_1 (by have := hpe q h; omega)
            · rcases List.mem_append.mp h with h | h
              · rw [ha q h]; decide
              · rw [ho q h]; decide
          · rcases List.mem_append.mp hq with h | h
            · have := ha q h; omega
            · have := ho q h; omega
          · rw [rm_fd_app, rm_fd_app, hfd, hac, hoc] at P'
            have inL : rm_in ((30, rd_co oA (rd_ca aA curp)) :: l) = rm_in l := by
              simp only [rm_in]; rw [if_neg (by decide)]
            refine hp (tk_e T s1) n1 ((30, rd_co oA (rd_ca aA curp)) :: l) (by omega) he.2 a3 a4 (by rw [rm_nb_k (by show (30 : Int) ≤ 30; decide)]; exact hnb) (fun q r h => by cases h; show (28 : Int) ≤ 30; decide) (by rw [inL]; exact inl.1) (by rw [inL]; exact inl.2) (fun p hpe => hE p (by rw [heq, hpe])) (fun f s2 n2 hok pend2 cur2 hpe2 hs2 hfd2 => ?_) M' cl' (rm_mv_t mv mv') st' P'
            rw [hok] at heq
            have g := hgd _ _ _ _ _ (by omega) he.2 a3 a4 hok
            exact ih (some (rd_co oA (rd_ca aA curp))) none f cur2 pend2 [] [(30, rd_co oA (rd_ca aA curp))] s2 n2 (by omega) g.2.1 g.2.2.1 g.2.2.2 (by omega) hpe2 hs2 hfd2 (fun q hq => by cases hq) (fun c => rfl) (fun q hq => by rw [List.mem_singleton.mp hq]) (fun c => rfl) heq
        · rw [if_neg e37] at heq
          exact done oA aA curp cur pend aF oF s1 n1 e36 e37 hpe hs0 hfd ha hac ho hoc heq
  refine hp s n l h0 h1 n0 n5 hnb (fun q r h => by rw [htop q r h]; decide) inl.1 inl.2 (fun p hpe => hE p (by unfold rd_testw; rw [hpe])) (fun f s1 n1 hok pend cur hpe hs0 hfd => ?_)
  have g := hgd _ _ _ _ _ h0 h1 n0 n5 hok
  exact loop 400 none none f cur pend [] [] s1 n1 (by omega) g.2.1 g.2.2.1 g.2.2.2 (by omega) hpe hs0 hfd (fun q hq => by cases hq) (fun c => rfl) (fun q hq => by cases hq) (fun c => rfl) (by unfold rd_testw; rw [hok])
theorem rm_test_th (hd : 8 ≤ d) (hT : tk_ok T) (ho : o = 0 ∨ o = 1) : ∀ (k : Nat), k ≤ 8 → ∀ (s n : Int) (l : rm_L), 0 ≤ s → s ≤ T.2 → 0 ≤ n → n ≤ 50 → rm_nb l = 8 - (k : Int) → (∀ q r, l = q :: r → q.1 = 31) → (l = [] → x1 ≠ 0) → (∀ p, rd_test T o k s n = .error p → rm_E M0 Q p) → (∀ f s1 n1, rd_test T o k s n = .ok (f, s1, n1) → tk_x T s1 ≠ rd_tx 36 → tk_x T s1 ≠ rd_tx 37 → ∀ pend cur, (∀ q ∈ pend, 20 ≤ q.1 ∧ q.1 ≤ 30) → rm_s0 pend cur → rm_fd pend cur = f → rm_O d T o i0 x1 M0 Q 2 s1 n1 (pend ++ l) cur) → rm_A d T o i0 x1 M0 Q 0 s n l
  | 0, hk, s, n, l, h0, h1, n0, n5, hnb, htop, hx, hE, hK =>
    rm_testw_th hd hT (rd_pln_gd (rd_sum_gd T o 0) (fun g h => by cases h)) (fun s n l a0 a1 a2 a3 a4 a5 a6 a7 a8 a9 => rm_plain_th hd hT 0 (by omega) (fun _ => rfl) (rd_sum_gd T o 0) (rm_sum_th hd hT ho 0 (by omega)) (fun g h => by cases h) a0 a1 a2 a3 a4 a5 a6 a7 a8 a9) h0 h1 n0 n5 hnb htop hx hE hK
  | k + 1, hk, s, n, l, h0, h1, n0, n5, hnb, htop, hx, hE, hK =>
    rm_testw_th hd hT (rd_pln_gd (rd_sum_gd T o (k + 1)) (fun g h => by cases h; exact rd_test_gd T o k)) (fun s n l a0 a1 a2 a3 a4 a5 a6 a7 a8 a9 => rm_plain_th hd hT (k + 1) hk (fun h => by cases h) (rd_sum_gd T o (k + 1)) (rm_sum_th hd hT ho (k + 1) hk) (fun g h => by
      cases h
      exact ⟨by omega, rd_test_01 T o k, fun s n l b0 b1 b2 b3 b4 b5 b6 b7 b8 => rm_test_th hd hT ho k (by omega) s n l b0 b1 b2 b3 (by omega) b5 b6 b7 b8⟩) a0 a1 a2 a3 a4 a5 a6 a7 a8 a9) h0 h1 n0 n5 hnb htop hx hE hK
end
/-- readExpression: a sum (x1 = 0), a test (x1 = 1) -/
theorem rm_196 {d : Nat} {T : tk_T} {o s n cl x1 : Int} {M : am_M} {Q : List am_V → am_M → Prop} {g : Int → Int → rd_R} (hd : 8 ≤ d) (hT : tk_ok T) (ho : o = 0 ∨ o = 1) (hg : (x1 = 0 ∧ g = rd_sum T o 8) ∨ (x1 = 1 ∧ g = rd_test T o 8)) (hst : rm_st M T o s n cl) (hcl : cl ≤ s)
    (hE : ∀ p M', g s n = .error p → nm_Fr rm_xb M M' → nm_Lay M' → am_gt M' 214 19 = 1 → am_gt M' 214 18 = p → Q [] M')
    (hK : ∀ f s1 n1 M' cl', g s n = .ok (f, s1, n1) → rm_mv M M' cl → rm_st M' T o s1 n1 cl' → cl' ≤ s1 → rm_B M' o cl cl' f → Q [] M') : am_CL d 196 [(2, 214), (0, x1)] M Q := by
  have hst' := hst
  obtain ⟨hL, hTP, hS, g20, g26, g23, g19, s0, s1, n0, n5, c0⟩ := hst'
  have t4 := hT.2.1
  have F : nm_Fr rm_xg M (am_st (am_st M 214 29 0) 214 30 0) := nm_Fr_st (nm_Fr_st (nm_Fg_refl _ _) (by decide)) (by decide)
  have gk : ∀ k, k ≠ 29 → k ≠ 30 → am_gt (am_st (am_st M 214 29 0) 214 30 0) 214 k = am_gt M 214 k := fun k h1 h2 => by rw [nm_gt_st, if_neg (fun q => h2 q.2), nm_gt_st, if_neg (fun q => h1 q.2)]
  have ga : ∀ a k, a ≠ 214 → am_gt (am_st (am_st M 214 29 0) 214 30 0) a k = am_gt M a k := fun a k ha => by rw [nm_gt_st, if_neg (fun q => ha q.1), nm_gt_st, if_neg (fun q => ha q.1)]
  have mv0 : rm_mv M (am_st (am_st M 214 29 0) 214 30 0) cl := ⟨F, fun k _ _ => ⟨ga _ _ (by decide), ga _ _ (by decide)⟩⟩
  have st0 : rm_st (am_st (am_st M 214 29 0) 214 30 0) T o s n cl := ⟨rm_lay hL F, rm_tp_f hL F hTP, ⟨(gk 14 (by decide) (by decide)).trans hS.1, (gk 15 (by decide) (by decide)).trans hS.2.1, (gk 16 (by decide) (by decide)).trans hS.2.2.1, (gk 17 (by decide) (by decide)).trans hS.2.2.2⟩, (gk 20 (by decide) (by decide)).trans g20, (gk 26 (by decide) (by decide)).trans g26, (gk 23 (by decide) (by decide)).trans g23, (gk 19 (by decide) (by decide)).trans g19, s0, s1, n0, n5, c0⟩
  have P0 : rm_P (am_st (am_st M 214 29 0) 214 30 0) o cl s cl [] cl := ⟨trivial, by rw [nm_gt_st, if_neg (fun q => absurd q.2 (by decide)), nm_gt_st, if_pos ⟨rfl, rfl⟩]; rfl, by rw [nm_gt_st, if_pos ⟨rfl, rfl⟩]; rfl, rfl, by simp only [rm_w]; omega, by simp; omega, c0⟩
  have hE' : ∀ p, g s n = .error p → rm_E M Q p := fun p hp M' F' L' b1 b2 => hE p M' hp F' L' b1 b2
  -- the end
  have over : ∀ (f : rd_F) (s1 n1 : Int), g s n = .ok (f, s1, n1) → ∀ (pend : rm_L) (cur : rd_F), (∀ q ∈ pend, 20 ≤ q.1 ∧ q.1 ≤ 30) → rm_s0 pend cur → rm_fd pend cur = f → rm_O d T o cl x1 M Q 4 s1 n1 (pend ++ []) cur := by
    intro f s1 n1 hok pend cur hpe hs0 hfd M1 cl1 i1 mv1 st1 P1 B1
    have s14 := st1.2.2.2.2.2.2.2.2.1
    refine h_196_20 st1.1 ⟨fun h => absurd st1.2.2.2.2.2.2.1 h, fun _ => ⟨fun _ => ⟨by omega, rm_settle (by omega) (by decide) (by omega) (fun q r h => by cases h) (fun q hq => rm_bd_1 (hpe q hq).2) hs0 st1 P1 B1 (fun M2 cl2 i2 mv2 st2 P2 B2 => h_196_81 st2.1 ?_)⟩, fun h => absurd rfl h⟩⟩
    have hi : i2 = cl := P2.2.2.2.1
    have hc := P2.2.2.2.2.1
    simp only [rm_w] at hc
    rw [hi, hfd] at B2
    exact hK f s1 n1 M2 cl2 hok (rm_mv_t mv1 mv2) st2 (by omega) B2
  refine h_196_0 hL ?_
  rcases hg with ⟨rfl, rfl⟩ | ⟨rfl, rfl⟩
  · refine ⟨fun _ => ?_, fun h => absurd rfl h⟩
    refine rm_sum_th (i0 := cl) (x1 := 0) (M0 := M) (Q := Q) hd hT ho 8 (by decide) 1 s n [] s0 s1 n0 n5 (.inl rfl) (by decide) (fun q r h => by cases h) hE' (fun f s2 n2 hok hj pend cur hpe hfd => ?_) _ cl mv0 st0 P0
    intro M1 cl1 i1 mv1 st1 P1 B1
    have hin : rm_in (pend ++ []) = -1 := by rw [rm_in_app (fun q hq => by have := hpe q hq; omega)]; rfl
    exact rm_t3 (by omega) st1 (fun R hR => rm_194o (by omega) hT st1 P1 hj hin rfl (hR _ _ st1.1 (over f s2 n2 hok pend cur (fun q hq => by have := hpe q hq; omega) (rm_s0_ne (fun q hq => by have := hpe q hq; omega)) hfd M1 cl1 i1 mv1 st1 P1 B1)))
  · refine ⟨fun h => absurd h (by decide), fun _ => ?_⟩
    refine rm_test_th (i0 := cl) (x1 := 1) (M0 := M) (Q := Q) hd hT ho 8 (by decide) s n [] s0 s1 n0 n5 (by decide) (fun q r h => by cases h) (fun _ => by decide) hE' (fun f s2 n2 hok e36 e37 pend cur hpe hs0 hfd => ?_) _ cl mv0 st0 P0
    intro M1 cl1 i1 mv1 st1 P1 B1
    have hin : rm_in (pend ++ []) = -1 := by rw [rm_in_app (fun q hq => (hpe q hq).2)]; rfl
    exact rm_t2 (by omega) st1 (fun R hR => rm_195o (by omega) hT st1 P1 e36 e37 hin (hR _ _ st1.1 (over f s2 n2 hok pend cur hpe hs0 hfd M1 cl1 i1 mv1 st1 P1 B1)))
