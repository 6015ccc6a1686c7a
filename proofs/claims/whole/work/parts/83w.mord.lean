/-! ORDERS OF THE REFERENCE -/
theorem rd_on_bd {X X2 : nm_X} {c : rd_C} {dn md dn2 md2 : Int} (hok : nm_ok X) (h6 : (nx_W X).2.1.length ≤ 6) (m0 : -1 ≤ md) (m1 : md ≤ 48) (h : rd_on X c dn md = some (X2, dn2, md2)) : rd_sm X X2 ∧ dn ≤ dn2 ∧ dn2 ≤ dn + 1 ∧ -1 ≤ md2 ∧ md2 ≤ 48 := by
  unfold rd_on at h
  split at h
  · cases h; exact ⟨rd_sm_r _, by omega, by omega, m0, m1⟩
  · cases hm : rd_m c (rd_oe (nx_S X) (nx_W X) dn md) with
    | none => rw [hm] at h; cases h
    | some m =>
      rw [hm] at h
      cases hb : rd_b c (rd_oe (nx_S X) (nx_W X) dn md) with
      | none => rw [hb] at h; cases h
      | some b =>
        rw [hb] at h
        simp only at h
        unfold rd_one at h
        split at h
        · cases h
        · rename_i hv
          cases h
          refine ⟨rd_sm_ch (rd_sm_r X), by omega, by omega, ?_, ?_⟩
          · split <;> omega
          · split
            · rename_i h3
              exact nm_ch_bd hok h6 h3
            · exact m1
theorem rd_sm_t {X X1 X2 : nm_X} (h : rd_sm X X1) (h1 : rd_sm X1 X2) : rd_sm X X2 := by
  obtain ⟨W, U, rfl⟩ := h
  obtain ⟨W', U', rfl⟩ := h1
  exact ⟨W', U', rfl⟩
theorem nm_MR_89 {f : nm_Rg} {M M' : am_M} {R : Int → Int} {v w : Int} (hL : nm_Lay M) (h : nm_MR M R) (F : nm_Fr f M M') (h1 : nm_dj f [(214, 1, 2), (214, 11, 12), (214, 58, 59)] = true) (h2 : nm_no f 215 = true) (hv : am_gt M' 214 18 = v) (hw : am_gt M' 214 54 = w) : nm_MR M' (nm_up (nm_up R 9 w) 8 v) := by
  obtain ⟨r0, r1, r2, r3, r4, r5⟩ := h
  refine ⟨?_, fun j a b c => ?_, ?_, ?_, ?_, ?_⟩
  · rw [nm_gt_frd F hL (by decide) h1 (by decide), nm_up_ne (by decide), nm_up_ne (by decide)]; exact r0
  · rw [nm_gt_frn F hL (by decide) h2, nm_up_ne (by omega), nm_up_ne (by omega)]; exact r1 j a b c
  · rw [nm_gt_frd F hL (by decide) h1 (by decide), nm_up_ne (by decide), nm_up_ne (by decide)]; exact r2
  · rw [hv, nm_up_eq]
  · rw [hw, nm_up_ne (by decide), nm_up_eq]
  · rw [nm_gt_frd F hL (by decide) h1 (by decide), nm_up_ne (by decide), nm_up_ne (by decide)]; exact r5
theorem nm_MR_9 {M : am_M} {R : Int → Int} {w : Int} (h : nm_MR M R) : nm_MR (am_st M 214 54 w) (nm_up R 9 w) := by
  obtain ⟨r0, r1, r2, r3, r4, r5⟩ := h
  refine ⟨?_, fun j a b c => ?_, ?_, ?_, ?_, ?_⟩
  · rw [nm_st_nj (by decide), nm_up_ne (by decide)]; exact r0
  · rw [nm_st_ne (by decide), nm_up_ne (by omega)]; exact r1 j a b c
  · rw [nm_st_nj (by decide), nm_up_ne (by decide)]; exact r2
  · rw [nm_st_nj (by decide), nm_up_ne (by decide)]; exact r3
  · rw [nm_st_eq, nm_up_eq]
  · rw [nm_st_nj (by decide), nm_up_ne (by decide)]; exact r5
/-- what was kept ahead of orders -/
def rm_sv (M : am_M) (S : Int → Int) (W : nm_W) (U : List (Int × nm_W)) : Prop := nm_Sn M 17 S W ∧ ∀ k : Nat, k < U.length → am_gt M 222 (k : Int) = (U.getD k nm_u0).1 ∧ nm_MW (nm_mr (fun i => am_gt M 221 (25 * (k : Int) + (i - 4)))) (U.getD k nm_u0).2 ∧ ∀ i, 5 ≤ i → i ≤ 7 → am_gt M 221 (25 * (k : Int) + (i - 4)) = S i
theorem rm_sv_fr {f : nm_Rg} {M M' : am_M} {S : Int → Int} {W : nm_W} {U : List (Int × nm_W)} (h : rm_sv M S W U) (hL : nm_Lay M) (F : nm_Fr f M M') (h1 : nm_dj f [(219, 425, 450)] = true) (h2 : nm_no f 221 = true) (h3 : nm_no f 222 = true) : rm_sv M' S W U := by
  obtain ⟨⟨a1, a2⟩, b⟩ := h
  have e9 : ∀ i, 4 ≤ i → i < 29 → am_gt M' 219 (25 * 17 + (i - 4)) = am_gt M 219 (25 * 17 + (i - 4)) := fun i x y => nm_gt_frd F hL (by decide) h1 (nm_in_c (lo := 425) (hi := 450) (by decide) (by omega) (by omega))
  refine ⟨⟨nm_MW_kp2 a1 (fun i x y => e9 i x y), fun i x y => (e9 i (by omega) (by omega)).trans (a2 i x y)⟩, fun k hk => ?_⟩
  obtain ⟨q1, q2, q3⟩ := b k hk
  have e1 : ∀ i, am_gt M' 221 i = am_gt M 221 i := fun i => nm_gt_frn F hL (by decide) h2
  exact ⟨(nm_gt_frn F hL (by decide) h3).trans q1, nm_MW_kp2 q2 (fun i _ _ => e1 _), fun i x y => (e1 _).trans (q3 i x y)⟩
abbrev rm_gb : nm_Rg := [(216, 4, 29), (219, 0, 400), (220, 0, 16), (214, 8, 9)]
/-- all goes back -/
theorem rm_255 {d : Nat} {X X2 : nm_X} {M : am_M} {Q : List am_V → am_M → Prop} (hd : 2 ≤ d) (hok : nm_ok X) (sm : rd_sm X X2) (hM : nm_M M X2) (hsv : rm_sv M (nx_S X) (nx_W X) (nx_U X)) (hQ : ∀ M', nm_Fr rm_gb M M' → nm_M M' X → Q [] M') : am_CL d 255 [(2, 214), (0, ((nx_U X).length : Int))] M Q := by
  obtain ⟨W', U', rfl⟩ := sm
  have hL : nm_Lay M := hM.1.1
  have ul : (nx_U X).length ≤ 16 := hok.2.2.1.1
  refine h_255_0 hL ⟨by omega, nmm_149s (S := nx_S X) (W := nx_W X) (W1 := W') (D := nx_D X) hM.1 hsv.1 (by decide) (by decide) (fun M1 F1 A1 => ?_)⟩
  have L1 := A1.1
  have sv1 := rm_sv_fr hsv hL F1 (by decide) (by decide) (by decide)
  refine h_255_6 L1 ?_
  have k1 : ∀ {M' : am_M}, nm_Fr [(219, 0, 400), (220, 0, 16)] M1 M' → ∀ i, am_gt M' 221 i = am_gt M1 221 i := fun F i => nm_gt_frn F L1 (by decide) (by decide)
  have k2 : ∀ {M' : am_M}, nm_Fr [(219, 0, 400), (220, 0, 16)] M1 M' → ∀ i, am_gt M' 222 i = am_gt M1 222 i := fun F i => nm_gt_frn F L1 (by decide) (by decide)
  have lay : ∀ {M' : am_M}, nm_Fr [(219, 0, 400), (220, 0, 16)] M1 M' → nm_Lay M' := fun F => nm_Lay_fr L1 F (by decide +kernel)
  have end2 : ∀ (M2 : am_M), nm_Fr [(219, 0, 400), (220, 0, 16)] M1 M2 → (∀ i, 0 ≤ i → i < 400 → am_gt M2 219 i = am_gt M1 221 i) → (∀ i, 0 ≤ i → i < 16 → am_gt M2 220 i = am_gt M1 222 i) → Q [] (am_st M2 214 8 ((nx_U X).length : Int)) := by
    intro M2 F2 q1 q2
    have F3 : nm_Fr [(219, 0, 400), (220, 0, 16), (214, 8, 9)] M1 (am_st M2 214 8 ((nx_U X).length : Int)) := nm_Fr_st (nm_Fr_sub F2 (by decide)) (by decide)
    have FA : nm_Fr rm_gb M (am_st M2 214 8 ((nx_U X).length : Int)) := nm_Fr_trans (nm_Fr_sub F1 (by decide)) (nm_Fr_sub F3 (by decide))
    obtain ⟨-, m2, m3, m4, m5, m6⟩ := hM
    refine hQ _ FA ⟨nm_MA_fr A1 F3 (by decide +kernel) (by decide) (by decide), fun k a b => ⟨by rw [nm_gt_frn FA hL (by decide) (by decide)]; exact (m2 k a b).1, fun e => nm_MI_fr (nm_ok_I hok a b e) ((m2 k a b).2 e) hL FA (by decide)⟩, ⟨nm_st_eq, ul, fun k hk => ?_⟩, nm_MP_fr m4 hL FA (by decide) (by decide), nm_MR_fr m5 hL FA (by decide) (by decide), nm_MY_fr m6 hL FA (by decide)⟩
    obtain ⟨r1, r2, r3⟩ := sv1.2 k hk
    have e9 : ∀ i, 4 ≤ i → i < 29 → am_gt (am_st M2 214 8 ((nx_U X).length : Int)) 219 (25 * (k : Int) + (i - 4)) = am_gt M1 221 (25 * (k : Int) + (i - 4)) := fun i x y => (nm_st_ne (by decide)).trans (q1 _ (by omega) (by omega))
    exact ⟨(nm_st_ne (by decide)).trans ((q2 _ (by omega) (by omega)).trans r1), nm_MW_kp2 r2 (fun i x y => e9 i x y), fun i x y => (e9 i (by omega) (by omega)).trans (r3 i x y)⟩
  have loop2 : ∀ (m j : Nat) (M2 : am_M), 16 - j ≤ m → j ≤ 16 → nm_Fr [(219, 0, 400), (220, 0, 16)] M1 M2 → (∀ i, 0 ≤ i → i < 400 → am_gt M2 219 i = am_gt M1 221 i) → (∀ i, 0 ≤ i → i < (j : Int) → am_gt M2 220 i = am_gt M1 222 i) → am_WP d am_c255 35 [(2, 214), (0, ((nx_U X).length : Int)), (0, (j : Int))] [] M2 Q := by
    intro m
    induction m with
    | zero =>
      intro j M2 hm hj F2 q1 q2
      obtain rfl : j = 16 := by omega
      exact h_255_35 (lay F2) ⟨fun _ => end2 M2 F2 q1 q2, fun h => absurd (by decide) h⟩
    | succ m ih =>
      intro j M2 hm hj F2 q1 q2
      refine h_255_35 (lay F2) ⟨fun h => end2 M2 F2 q1 (fun i x y => q2 i x (by omega)), fun h => ?_⟩
      rw [am_w_id (x := (j : Int) + 1) (by omega) (by omega), k2 F2]
      refine ⟨by omega, by omega, ?_⟩
      have := ih (j + 1) (am_st M2 220 (j : Int) (am_gt M1 222 (j : Int))) (by omega) (by omega) (nm_Fst F2 (lo := 0) (hi := 16) (by decide) (by omega) (by omega)) (fun i x y => (nm_st_ne (by decide)).trans (q1 i x y)) (fun i x y => ?_)
      · rw [show ((j + 1 : Nat) : Int) = (j : Int) + 1 by omega] at this; exact this
      · by_cases hi : i = (j : Int)
        · rw [hi, nm_st_eq]
        · rw [nm_st_nj hi]; exact q2 i x (by omega)
  have loop1 : ∀ (m j : Nat) (M2 : am_M), 400 - j ≤ m → j ≤ 400 → nm_Fr [(219, 0, 400), (220, 0, 16)] M1 M2 → (∀ i, 0 ≤ i → i < (j : Int) → am_gt M2 219 i = am_gt M1 221 i) → am_WP d am_c255 8 [(2, 214), (0, ((nx_U X).length : Int)), (0, (j : Int))] [] M2 Q := by
    intro m
    induction m with
    | zero =>
      intro j M2 hm hj F2 q1
      refine h_255_8 (lay F2) ⟨fun _ => loop2 16 0 M2 (by decide) (by decide) F2 (fun i x y => q1 i x (by omega)) (fun i x y => by omega), fun h => absurd (by omega) h⟩
    | succ m ih =>
      intro j M2 hm hj F2 q1
      refine h_255_8 (lay F2) ⟨fun h => loop2 16 0 M2 (by decide) (by decide) F2 (fun i x y => q1 i x (by omega)) (fun i x y => by omega), fun h => ?_⟩
      rw [am_w_id (x := (j : Int) + 1) (by omega) (by omega), k1 F2]
      refine ⟨by omega, by omega, by omega, ?_⟩
      have := ih (j + 1) (am_st M2 219 (j : Int) (am_gt M1 221 (j : Int))) (by omega) (by omega) (nm_Fst F2 (lo := 0) (hi := 400) (by decide) (by omega) (by omega)) (fun i x y => ?_)
      · rw [show ((j + 1 : Nat) : Int) = (j : Int) + 1 by omega] at this; exact this
      · by_cases hi : i = (j : Int)
        · rw [hi, nm_st_eq]
        · rw [nm_st_nj hi]; exact q1 i x (by omega)
  exact loop1 _ 0 M1 (Nat.le_refl _) (Nat.zero_le _) (nm_Fg_refl _ _) (fun i x y => by omega)
/-- the orders are run -/
theorem rm_orun {d : Nat} {cs : List rd_C} {cl : Int} {X : nm_X} {M : am_M} {Q : List am_V → am_M → Prop} (hd : 17 ≤ d) (hM : nm_M M X) (hok : nm_ok X) (hsv : rm_sv M (nx_S X) (nx_W X) (nx_U X)) (hlen : cs.length ≤ 12) (h21 : am_gt M 214 21 = (cs.length : Int)) (h52 : am_gt M 214 52 = 0) (h53 : am_gt M 214 53 = -1) (c4 : cl ≤ 400) (hcok : ∀ c ∈ cs, rd_cok c) (hoc : ∀ k : Nat, k < cs.length → rm_oc M cl (k : Int) (cs.getD k rd_c0))
    (hE : ∀ k M', rd_all cs 0 (X, 0, -1) = .error k → 0 ≤ k → nm_Fr (rm_rf ++ rm_gb) M M' → nm_M M' X → ∀ x3 : Int, am_WP d am_c254 182 [(2, 214), (0, ((nx_U X).length : Int)), (0, k), (0, x3)] [] M' Q)
    (hK : ∀ X2 dn md M', rd_all cs 0 (X, 0, -1) = .ok (X2, dn, md) → nm_ok X2 → 0 ≤ dn → nm_Fr rm_rf M M' → nm_M M' X2 → ∀ x2 l3, am_CL (d - 1) 145 [(2, 214), (0, dn)] M' (fun r M'' => am_WP d am_c254 214 [(2, 214), (0, ((nx_U X).length : Int)), (0, x2), l3] (r ++ []) M'' Q)) : am_WP d am_c254 140 [(2, 214), (0, ((nx_U X).length : Int)), (0, 0), (9, 0)] [] M Q := by
  have hL : nm_Lay M := hM.1.1
  have k45 : ∀ {M' : am_M}, nm_Fr rm_rf M M' → ∀ i, am_gt M' 245 i = am_gt M 245 i := fun F i => nm_gt_frn F hL (by decide) (by decide +kernel)
  have kc : ∀ {M' : am_M}, nm_Fr rm_rf M M' → ∀ z, am_gt M' 225 z = am_gt M 225 z ∧ am_gt M' 226 z = am_gt M 226 z := fun F z => ⟨nm_gt_frn F hL (by decide) (by decide +kernel), nm_gt_frn F hL (by decide) (by decide +kernel)⟩
  have inner : ∀ (k : Nat) (c : rd_C), k < cs.length → cs.getD k rd_c0 = c → rd_cok c → ∀ (tm : Nat) (j : Int) (X1 : nm_X) (dn md : Int) (M1 : am_M), (tm : Int) = c.2.2.2.1 - j → 0 ≤ j → rd_sm X X1 → nm_ok X1 → 0 ≤ dn → dn ≤ 20 * (k : Int) + j → -1 ≤ md → md ≤ 48 → nm_Fr rm_rf M M1 → nm_M M1 X1 → am_gt M1 214 52 = dn → am_gt M1 214 53 = md → (rd_rep c tm (X1, dn, md) = none → rd_all cs 0 (X, 0, -1) = .error (k : Int)) → (∀ X2 dn2 md2 M2 l3, rd_rep c tm (X1, dn, md) = some (X2, dn2, md2) → rd_sm X X2 → nm_ok X2 → 0 ≤ dn2 → dn2 ≤ 20 * ((k : Int) + 1) → -1 ≤ md2 → md2 ≤ 48 → nm_Fr rm_rf M M2 → nm_M M2 X2 → am_gt M2 214 52 = dn2 → am_gt M2 214 53 = md2 → am_WP d am_c254 140 [(2, 214), (0, ((nx_U X).length : Int)), (0, (k : Int) + 1), l3] [] M2 Q) → am_WP d am_c254 150 [(2, 214), (0, ((nx_U X).length : Int)), (0, (k : Int)), (0, j)] [] M1 Q := by
    intro k c hk hc hcok' tm
    have hoc' := hoc k hk
    rw [hc] at hoc'
    have ht := hcok'.2.1
    have kb : (k : Int) < 12 := by omega
    have w8 : am_w (8 * (k : Int)) = 8 * (k : Int) := am_w_id (by omega) (by omega)
    have w7 : am_w (8 * (k : Int) + 7) = 8 * (k : Int) + 7 := am_w_id (by omega) (by omega)
    induction tm with
    | zero =>
      intro j X1 dn md M1 hj j0 sm1 ok1 d0 d1 m0 m1 F1 C1 g52 g53 hN hS
      refine h_254_150 C1.1.1 ?_
      rw [w8, w7, k45 F1, hoc'.2.2.2.2]
      refine ⟨by omega, by omega, fun _ => ?_, fun h => absurd (by omega) h⟩
      rw [am_w_id (x := (k : Int) + 1) (by omega) (by omega)]
      exact hS X1 dn md M1 _ rfl sm1 ok1 d0 (by omega) m0 m1 F1 C1 g52 g53
    | succ tm ih =>
      intro j X1 dn md M1 hj j0 sm1 ok1 d0 d1 m0 m1 F1 C1 g52 g53 hN hS
      have w6 := C1.1.2.2.1.2.2.1
      have step : ∀ (o : Option rd_S), rd_on X1 c dn md = o → rd_rep c (tm + 1) (X1, dn, md) = (match o with
        | none => none
        | some st' => rd_rep c tm st') := by
        intro o ho
        show (match rd_on X1 c dn md with
          | none => none
          | some st' => rd_rep c tm st') = _
        rw [ho]
      refine h_254_150 C1.1.1 ?_
      rw [w8, w7, k45 F1, hoc'.2.2.2.2]
      refine ⟨by omega, by omega, fun h => absurd h (by omega), fun _ => ⟨by omega, ?_⟩⟩
      refine rm_253 (by omega) C1 ok1 d0 (by omega) ⟨by omega, by omega⟩ (by omega) kb c4 (rm_oc_m hoc' (fun z _ _ => kc F1 z) (fun i _ => k45 F1 i) (Int.le_refl _)) hcok' g52 g53 (fun hno X' M2 sm2 ok2 F2 C2 => ?_) (fun X2 dn2 md2 hso M2 F2 C2 e52 e53 => ?_)
      · refine h_254_174 C2.1.1 ⟨fun h => absurd h (by decide), fun _ => ⟨by omega, ?_⟩⟩
        have FA := nm_Fr_trans F1 F2
        refine rm_255 (by omega) hok (rd_sm_t sm1 sm2) C2 (rm_sv_fr hsv hL FA (by decide +kernel) (by decide +kernel) (by decide +kernel)) (fun M3 F3 C3 => ?_)
        exact hE (k : Int) M3 (hN (by rw [step none hno])) (by omega) (nm_Fr_trans (nm_Fr_appl FA) (nm_Fr_appr F3)) C3 _
      · have rep := step _ hso
        obtain ⟨sm2, b1, b2, b3, b4⟩ := rd_on_bd ok1 w6 m0 m1 hso
        have ok2 : nm_ok X2 := rd_on_ok (st := (X2, dn2, md2)) ok1 hcok' hso
        refine h_254_174 C2.1.1 ⟨fun _ => ?_, fun h => absurd (by decide) h⟩
        rw [am_w_id (x := j + 1) (by omega) (by omega)]
        exact ih (j + 1) X2 dn2 md2 M2 (by omega) (by omega) (rd_sm_t sm1 sm2) ok2 (by omega) (by omega) b3 b4 (nm_Fr_trans F1 F2) C2 e52 e53 (fun h => hN (by rw [rep]; exact h)) (fun X3 dn3 md3 M3 l3 h => hS X3 dn3 md3 M3 l3 (by rw [rep]; exact h))
  have outer : ∀ (m k : Nat) (X1 : nm_X) (dn md : Int) (M1 : am_M) (l3 : am_V), cs.length - k ≤ m → k ≤ cs.length → rd_sm X X1 → nm_ok X1 → 0 ≤ dn → dn ≤ 20 * (k : Int) → -1 ≤ md → md ≤ 48 → nm_Fr rm_rf M M1 → nm_M M1 X1 → am_gt M1 214 52 = dn → am_gt M1 214 53 = md → rd_all cs 0 (X, 0, -1) = rd_all (cs.drop k) (k : Int) (X1, dn, md) → am_WP d am_c254 140 [(2, 214), (0, ((nx_U X).length : Int)), (0, (k : Int)), l3] [] M1 Q := by
    intro m
    have fin : ∀ (X1 : nm_X) (dn md : Int) (M1 : am_M) (l3 : am_V), nm_ok X1 → 0 ≤ dn → nm_Fr rm_rf M M1 → nm_M M1 X1 → am_gt M1 214 52 = dn → rd_all cs 0 (X, 0, -1) = .ok (X1, dn, md) → am_WP d am_c254 140 [(2, 214), (0, ((nx_U X).length : Int)), (0, (cs.length : Int)), l3] [] M1 Q := by
      intro X1 dn md M1 l3 ok1 d0 F1 C1 g52 heq
      have e21 : am_gt M1 214 21 = (cs.length : Int) := (nm_gt_frd (g := [(214, 21, 22)]) F1 hL (by decide) (by decide +kernel) (by decide)).trans h21
      refine h_254_140 C1.1.1 ?_
      rw [e21, g52]
      exact ⟨fun _ => ⟨by omega, hK X1 dn md M1 heq ok1 d0 F1 C1 _ _⟩, fun h => absurd (Int.le_refl _) h⟩
    induction m with
    | zero =>
      intro k X1 dn md M1 l3 hm hk sm1 ok1 d0 d1 m0 m1 F1 C1 g52 g53 heq
      obtain rfl : k = cs.length := by omega
      rw [List.drop_length] at heq
      exact fin X1 dn md M1 l3 ok1 d0 F1 C1 g52 heq
    | succ m ih =>
      intro k X1 dn md M1 l3 hm hk sm1 ok1 d0 d1 m0 m1 F1 C1 g52 g53 heq
      by_cases hke : k = cs.length
      · subst hke
        rw [List.drop_length] at heq
        exact fin X1 dn md M1 l3 ok1 d0 F1 C1 g52 heq
      · have hlt : k < cs.length := by omega
        have hdrop : cs.drop k = cs.getD k rd_c0 :: cs.drop (k + 1) := by
          rw [List.getD_eq_getElem?_getD, List.getElem?_eq_getElem hlt]
          exact List.drop_eq_getElem_cons hlt
        have hmem : cs.getD k rd_c0 ∈ cs := by rw [List.getD_eq_getElem?_getD, List.getElem?_eq_getElem hlt]; exact List.getElem_mem hlt
        have e21 : am_gt M1 214 21 = (cs.length : Int) := (nm_gt_frd (g := [(214, 21, 22)]) F1 hL (by decide) (by decide +kernel) (by decide)).trans h21
        rw [hdrop] at heq
        simp only [rd_all] at heq
        have hco := hcok _ hmem
        generalize hcd : cs.getD k rd_c0 = c at *
        refine h_254_140 C1.1.1 ?_
        rw [e21]
        refine ⟨fun h => absurd h (by omega), fun _ => ?_⟩
        refine inner k c hlt hcd hco c.2.2.2.1.toNat 0 X1 dn md M1 (by have := hco.2.1; omega) (Int.le_refl _) sm1 ok1 d0 (by omega) m0 m1 F1 C1 g52 g53 (fun h => by rw [heq, h]) (fun X2 dn2 md2 M2 l3 h sm2 ok2 e0 e1 g0 g1 F2 C2 e52 e53 => ?_)
        rw [h] at heq
        have := ih (k + 1) X2 dn2 md2 M2 l3 (by omega) (by omega) sm2 ok2 e0 (by omega) g0 g1 F2 C2 e52 e53 (by rw [show ((k + 1 : Nat) : Int) = (k : Int) + 1 by omega]; exact heq)
        rw [show ((k + 1 : Nat) : Int) = (k : Int) + 1 by omega] at this
        exact this
  exact outer _ 0 X 0 (-1) M _ (Nat.le_refl _) (Nat.zero_le _) (rd_sm_r X) hok (by decide) (by decide) (by decide) (by decide) (nm_Fg_refl _ _) hM h52 h53 rfl
theorem nmq_14 {d : Nat} {X : nm_X} {M : am_M} {Q : List am_V → am_M → Prop} (hd : 20 ≤ d) (hok : nm_ok X) (hM : nm_M M X) (hQ : nm_KM (sp_14 X).1 [(0, (sp_14 X).2)] M Q) : am_CL d 254 [(2, 214)] M Q := by
  have hL : nm_Lay M := hM.1.1
  have hT := nm_tkok hok
  have F0 : nm_Fr [(214, 0, 1), (214, 54, 55)] M (am_st (am_st M 214 0 0) 214 54 (-1)) := nm_Fr_st (nm_Fr_st (nm_Fg_refl _ _) (by decide)) (by decide)
  have L0 := nm_Lay_fr hL F0 (by decide +kernel)
  have hP : rm_tp (am_st (am_st M 214 0 0) 214 54 (-1)) (nx_P X, nx_L X) := nm_MP_fr hM.2.2.2.1 hL F0 (by decide) (by decide)
  have e54 : am_gt (am_st (am_st M 214 0 0) 214 54 (-1)) 214 54 = -1 := nm_st_eq
  have r10 : ∀ v w, nm_up (nm_up (nx_R X) 9 w) 8 v 10 = nx_R X 10 := fun v w => (nm_up_ne (by decide)).trans (nm_up_ne (by decide))
  unfold sp_14 at hQ
  refine h_254_0 hL ⟨by omega, ?_⟩
  generalize am_st (am_st M 214 0 0) 214 54 (-1) = M0 at F0 L0 hP e54 ⊢
  refine rm_otext (by omega) hT L0 hP (fun p M1 hp F1 L1 b19 b18 b20 b13 => ?_) (fun cs M1 cl hp F1 L1 b19 b18 b20 b13 b21 b23 c0 c4 hlen hcl => ?_)
  · rw [hp] at hQ
    have FA : nm_Fr ([(214, 0, 1), (214, 54, 55)] ++ rm_tg3) M M1 := nm_Fr_trans (nm_Fr_appl F0) (nm_Fr_appr F1)
    have b54 : am_gt M1 214 54 = -1 := (nm_gt_frd (g := [(214, 54, 55)]) F1 L0 (by decide) (by decide) (by decide)).trans e54
    have C1 : nm_M M1 (ns_R (ns_P X (nx_P X) 0) (nm_up (nm_up (nx_R X) 9 (-1)) 8 p)) := nm_M_rd hok hM FA (by decide +kernel) ⟨b13, fun i a b => by omega⟩ (nm_MR_89 hL hM.2.2.2.2.1 FA (by decide) (by decide) b18 b54) (r10 _ _) b20
    have ok1 : nm_ok (ns_R (ns_P X (nx_P X) 0) (nm_up (nm_up (nx_R X) 9 (-1)) 8 p)) := nm_ok_X1 hok (r10 _ _)
    exact h_254_50 L1 ⟨fun h => absurd h (by rw [b19]; decide), fun _ => ⟨by omega, nmy_145 ok1 (by decide) C1 (fun M2 F2 C2 => h_254_63 C2.1.1 (hQ M2 (nm_Fr_trans (nm_Fr_sub FA (by decide +kernel)) (nm_Fr_sub F2 (by decide +kernel))) C2))⟩⟩
  · rw [hp] at hQ
    simp only at hQ
    obtain ⟨hcok, len1, len2⟩ := rd_text_ok hT hp
    have FA : nm_Fr ([(214, 0, 1), (214, 54, 55)] ++ rm_tg3) M M1 := nm_Fr_trans (nm_Fr_appl F0) (nm_Fr_appr F1)
    have b54 : am_gt M1 214 54 = -1 := (nm_gt_frd (g := [(214, 54, 55)]) F1 L0 (by decide) (by decide) (by decide)).trans e54
    have C1 : nm_M M1 (ns_R (ns_L X 0) (nm_up (nm_up (nx_R X) 9 (-1)) 8 (-1))) := nm_M_rd (P := nx_P X) (L := 0) hok hM FA (by decide +kernel) ⟨b13, fun i a b => by omega⟩ (nm_MR_89 hL hM.2.2.2.2.1 FA (by decide) (by decide) b18 b54) (r10 _ _) b20
    have ok1 : nm_ok (ns_R (ns_L X 0) (nm_up (nm_up (nx_R X) 9 (-1)) 8 (-1))) := nm_ok_X1 hok (r10 _ _)
    generalize hX1 : ns_R (ns_L X 0) (nm_up (nm_up (nx_R X) 9 (-1)) 8 (-1)) = X1 at C1 ok1 hQ
    refine h_254_50 L1 ⟨fun _ => ⟨by omega, nmm_148s C1.1 (by decide) (by decide) (fun M2 F2 S2 => ?_)⟩, fun h => absurd b19 h⟩
    have F2 : nm_Fr [(219, 425, 450)] M1 M2 := F2
    have C2 := nm_M_fr ok1 C1 F2 (by decide +kernel)
    have L2 := C2.1.1
    have U2 := C2.2.2.1
    refine h_254_70 L2 ?_
    rw [U2.1]
    have ul := U2.2.1
    have k19 : ∀ {M' : am_M}, nm_Fr [(221, 0, 400), (222, 0, 16)] M2 M' → (∀ i, am_gt M' 219 i = am_gt M2 219 i) ∧ ∀ i, am_gt M' 220 i = am_gt M2 220 i := fun F => ⟨fun i => nm_gt_frn F L2 (by decide) (by decide), fun i => nm_gt_frn F L2 (by decide) (by decide)⟩
    have lay : ∀ {M' : am_M}, nm_Fr [(221, 0, 400), (222, 0, 16)] M2 M' → nm_Lay M' := fun F => nm_Lay_fr L2 F (by decide +kernel)
    -- all is kept: run
    have run : ∀ (M3 : am_M), nm_Fr [(221, 0, 400), (222, 0, 16)] M2 M3 → (∀ i, 0 ≤ i → i < 400 → am_gt M3 221 i = am_gt M2 219 i) → (∀ i, 0 ≤ i → i < 16 → am_gt M3 222 i = am_gt M2 220 i) → am_WP d am_c254 140 [(2, 214), (0, ((nx_U X1).length : Int)), (0, 0), (9, 0)] [] (am_st (am_st M3 214 52 0) 214 53 (-1)) Q := by
      intro M3 F3 q1 q2
      have F4 : nm_Fr [(221, 0, 400), (222, 0, 16), (214, 52, 54)] M2 (am_st (am_st M3 214 52 0) 214 53 (-1)) := nm_Fr_st (nm_Fr_st (nm_Fr_sub F3 (by decide)) (by decide)) (by decide)
      have C4 := nm_M_fr ok1 C2 F4 (by decide +kernel)
      have F24 : nm_Fr [(219, 425, 450), (221, 0, 400), (222, 0, 16), (214, 52, 54)] M1 (am_st (am_st M3 214 52 0) 214 53 (-1)) := nm_Fr_trans (nm_Fr_sub F2 (by decide)) (nm_Fr_sub F4 (by decide))
      have FM : nm_Fr nm_mAll M (am_st (am_st M3 214 52 0) 214 53 (-1)) := nm_Fr_trans (nm_Fr_sub FA (by decide +kernel)) (nm_Fr_sub F24 (by decide +kernel))
      have e9 : ∀ i, am_gt (am_st (am_st M3 214 52 0) 214 53 (-1)) 219 i = am_gt M2 219 i := fun i => nm_gt_frn F4 L2 (by decide) (by decide)
      have sv : rm_sv (am_st (am_st M3 214 52 0) 214 53 (-1)) (nx_S X1) (nx_W X1) (nx_U X1) := by
        refine ⟨⟨nm_MW_kp2 S2.1 (fun i _ _ => e9 _), fun i x y => (e9 _).trans (S2.2 i x y)⟩, fun k hk => ?_⟩
        obtain ⟨r1, r2, r3⟩ := U2.2.2 k hk
        have f1 : ∀ i, 4 ≤ i → i < 29 → am_gt (am_st (am_st M3 214 52 0) 214 53 (-1)) 221 (25 * (k : Int) + (i - 4)) = am_gt M2 219 (25 * (k : Int) + (i - 4)) := fun i x y => by
          rw [nm_st_ne (by decide), nm_st_ne (by decide)]; exact q1 _ (by omega) (by omega)
        refine ⟨?_, nm_MW_kp2 r2 (fun i x y => f1 i x y), fun i x y => (f1 i (by omega) (by omega)).trans (r3 i x y)⟩
        rw [nm_st_ne (by decide), nm_st_ne (by decide)]; exact (q2 _ (by omega) (by omega)).trans r1
      refine rm_orun (cl := cl) (by omega) C4 ok1 sv hlen ((nm_gt_frd (g := [(214, 21, 22)]) F24 L1 (by decide) (by decide) (by decide)).trans b21) (by rw [nm_st_nj (by decide), nm_st_eq]) nm_st_eq c4 hcok (fun k hk => rm_oc_m (hcl k hk) (fun z _ _ => ⟨nm_gt_frn F24 L1 (by decide) (by decide), nm_gt_frn F24 L1 (by decide) (by decide)⟩) (fun i _ => nm_gt_frn F24 L1 (by decide) (by decide)) (Int.le_refl _)) (fun k M5 hall k0 F5 C5 x3 => ?_) (fun X2 dn md M5 hall ok2 d0 F5 C5 x2 l3 => ?_)
      · rw [hall] at hQ
        refine h_254_182 C5.1.1 ⟨by omega, ?_⟩
        have F6 : nm_Fr [(214, 54, 55)] M5 (am_st M5 214 54 k) := nm_Fr_st (nm_Fg_refl _ _) (by decide)
        have C6 : nm_M (am_st M5 214 54 k) (ns_R (ns_P X1 (nx_P X1) (nx_L X1)) (nm_up (nx_R X1) 9 k)) := nm_M_rd ok1 C5 F6 (by decide +kernel) (nm_MP_fr C5.2.2.2.1 C5.1.1 F6 (by decide) (by decide)) (nm_MR_9 C5.2.2.2.2.1) (nm_up_ne (by decide)) ((nm_st_nj (by decide)).trans C5.1.2.2.2.2.2)
        have eX : ns_R (ns_P X1 (nx_P X1) (nx_L X1)) (nm_up (nx_R X1) 9 k) = ns_R (ns_L X 0) (nm_up (nm_up (nm_up (nx_R X) 9 (-1)) 8 (-1)) 9 k) := by rw [← hX1]; rfl
        rw [eX] at C6
        have ok6 : nm_ok (ns_R (ns_L X 0) (nm_up (nm_up (nm_up (nx_R X) 9 (-1)) 8 (-1)) 9 k)) := nm_ok_X1 hok ((nm_up_ne (by decide)).trans (r10 _ _))
        exact nmy_145 ok6 (by decide) C6 (fun M7 F7 C7 => h_254_193 C7.1.1 (hQ M7 (nm_Fr_trans FM (nm_Fr_trans (nm_Fr_sub F5 (by decide +kernel)) (nm_Fr_trans (nm_Fr_sub F6 (by decide +kernel)) (nm_Fr_sub F7 (by decide +kernel))))) C7))
      · rw [hall] at hQ
        refine nmy_145 ok2 (.inl d0) C5 (fun M7 F7 C7 => h_254_214 C7.1.1 (hQ M7 (nm_Fr_trans FM (nm_Fr_trans (nm_Fr_sub F5 (by decide +kernel)) (nm_Fr_sub F7 (by decide +kernel)))) ?_))
        have e : nx_tl X2 dn = nx_fn X2 := by unfold nx_tl nm_tl1; rw [if_neg (by omega)]; rfl
        rw [e] at C7; exact C7
    have loop2 : ∀ (m j : Nat) (M3 : am_M), 16 - j ≤ m → j ≤ 16 → nm_Fr [(221, 0, 400), (222, 0, 16)] M2 M3 → (∀ i, 0 ≤ i → i < 400 → am_gt M3 221 i = am_gt M2 219 i) → (∀ i, 0 ≤ i → i < (j : Int) → am_gt M3 222 i = am_gt M2 220 i) → am_WP d am_c254 104 [(2, 214), (0, ((nx_U X1).length : Int)), (0, (j : Int)), (9, 0)] [] M3 Q := by
      intro m
      induction m with
      | zero =>
        intro j M3 hm hj F3 q1 q2
        obtain rfl : j = 16 := by omega
        exact h_254_104 (lay F3) ⟨fun _ => run M3 F3 q1 q2, fun h => absurd (by decide) h⟩
      | succ m ih =>
        intro j M3 hm hj F3 q1 q2
        refine h_254_104 (lay F3) ⟨fun h => run M3 F3 q1 (fun i x y => q2 i x (by omega)), fun h => ?_⟩
        rw [am_w_id (x := (j : Int) + 1) (by omega) (by omega), (k19 F3).2]
        refine ⟨by omega, by omega, ?_⟩
        have := ih (j + 1) (am_st M3 222 (j : Int) (am_gt M2 220 (j : Int))) (by omega) (by omega) (nm_Fst F3 (lo := 0) (hi := 16) (by decide) (by omega) (by omega)) (fun i x y => (nm_st_ne (by decide)).trans (q1 i x y)) (fun i x y => ?_)
        · rw [show ((j + 1 : Nat) : Int) = (j : Int) + 1 by omega] at this; exact this
        · by_cases hi : i = (j : Int)
          · rw [hi, nm_st_eq]
          · rw [nm_st_nj hi]; exact q2 i x (by omega)
    have loop1 : ∀ (m j : Nat) (M3 : am_M), 400 - j ≤ m → j ≤ 400 → nm_Fr [(221, 0, 400), (222, 0, 16)] M2 M3 → (∀ i, 0 ≤ i → i < (j : Int) → am_gt M3 221 i = am_gt M2 219 i) → am_WP d am_c254 77 [(2, 214), (0, ((nx_U X1).length : Int)), (0, (j : Int)), (9, 0)] [] M3 Q := by
      intro m
      induction m with
      | zero =>
        intro j M3 hm hj F3 q1
        exact h_254_77 (lay F3) ⟨fun _ => loop2 16 0 M3 (by decide) (by decide) F3 (fun i x y => q1 i x (by omega)) (fun i x y => by omega), fun h => absurd (by omega) h⟩
      | succ m ih =>
        intro j M3 hm hj F3 q1
        refine h_254_77 (lay F3) ⟨fun h => loop2 16 0 M3 (by decide) (by decide) F3 (fun i x y => q1 i x (by omega)) (fun i x y => by omega), fun h => ?_⟩
        rw [am_w_id (x := (j : Int) + 1) (by omega) (by omega), (k19 F3).1]
        refine ⟨by omega, by omega, by omega, ?_⟩
        have := ih (j + 1) (am_st M3 221 (j : Int) (am_gt M2 219 (j : Int))) (by omega) (by omega) (nm_Fst F3 (lo := 0) (hi := 400) (by decide) (by omega) (by omega)) (fun i x y => ?_)
        · rw [show ((j + 1 : Nat) : Int) = (j : Int) + 1 by omega] at this; exact this
        · by_cases hi : i = (j : Int)
          · rw [hi, nm_st_eq]
          · rw [nm_st_nj hi]; exact q1 i x (by omega)
    exact loop1 _ 0 M2 (Nat.le_refl _) (Nat.zero_le _) (nm_Fg_refl _ _) (fun i x y => by omega)
