/-! LINES, the reference's tables -/
def nm_cn (X : nm_X) : Int → Int → Bool := fun m p => decide (0 < (nx_W X).2.2.1 m) && !nm_bar (nx_S X) (nx_W X) (nm_lwf (nx_S X) (nx_D X)) m p
def nm_mkx (X : nm_X) : Int → Int → Int → Int := fun m p h => nm_mk (nx_S X) (nx_W X) (nm_lwf (nx_S X) (nx_D X)) m p h
theorem nm_mkx_in {X : nm_X} {m p h : Int} : 0 ≤ nm_mkx X m p h ∧ nm_mkx X m p h ≤ 7 := nm_made_in
theorem nm_ix48 {m p h : Int} (m0 : 0 ≤ m) (m1 : m < 6) (p0 : 0 ≤ p) (p1 : p < 6) (h0 : 0 ≤ h) (h1 : h ≤ 8) : am_w ((am_w ((am_w ((am_w (48 * m)) + (am_w (8 * p)))) + h)) - 1) = 48 * m + 8 * p + h - 1 := by
  rw [am_w_id (x := 48 * m) (by omega) (by omega), am_w_id (x := 8 * p) (by omega) (by omega), am_w_id (x := 48 * m + 8 * p) (by omega) (by omega), am_w_id (x := 48 * m + 8 * p + h) (by omega) (by omega), am_w_id (by omega) (by omega)]
def nm_P238 (M : am_M) (N : Int) (cn : Int → Int → Bool) (j : Int) : Prop := ∀ m p, 0 ≤ m → m < N → 0 ≤ p → p < 6 → 6 * m + p < j → am_gt M 238 (6 * m + p) = if cn m p then 1 else 0
def nm_P237 (M : am_M) (N : Int) (mk : Int → Int → Int → Int) (j : Int) : Prop := ∀ m p h, 0 ≤ m → m < N → 0 ≤ p → p < 6 → 1 ≤ h → h ≤ 8 → 48 * m + 8 * p + h - 1 < j → am_gt M 237 (48 * m + 8 * p + h - 1) = if p < h then mk m p h else -1
theorem nm_P238_st {M : am_M} {N : Int} {cn : Int → Int → Bool} {m p v : Int} (h : nm_P238 M N cn (6 * m + p)) (p0 : 0 ≤ p) (p1 : p < 6) (hv : v = if cn m p then 1 else 0) : nm_P238 (am_st M 238 (6 * m + p) v) N cn (6 * m + p + 1) := by
  intro m' p' a b c e f
  by_cases g : 6 * m' + p' = 6 * m + p
  · have e1 : m' = m := by omega
    have e2 : p' = p := by omega
    subst e1; subst e2
    rw [nm_st_eq, hv]
  · rw [nm_st_nj g]; exact h m' p' a b c e (by omega)
theorem nm_P237_st {M : am_M} {N : Int} {mk : Int → Int → Int → Int} {m p h v : Int} (H : nm_P237 M N mk (48 * m + 8 * p + h - 1)) (p0 : 0 ≤ p) (p1 : p < 6) (h0 : 1 ≤ h) (h1 : h ≤ 8) (hv : v = if p < h then mk m p h else -1) : nm_P237 (am_st M 237 (48 * m + 8 * p + h - 1) v) N mk (48 * m + 8 * p + h) := by
  intro m' p' h' a b c e f f' g'
  by_cases g : 48 * m' + 8 * p' + h' - 1 = 48 * m + 8 * p + h - 1
  · have e1 : m' = m := by omega
    have e2 : p' = p := by omega
    have e3 : h' = h := by omega
    subst e1; subst e2; subst e3
    rw [nm_st_eq, hv]
  · rw [nm_st_nj g]; exact H m' p' h' a b c e f f' (by omega)
abbrev nm_lwM : nm_Rg := nm_tg ++ [(237, 0, 288), (238, 0, 36)]
theorem nmm_228 {d : Nat} {X : nm_X} {M : am_M} {Q : List am_V → am_M → Prop} (hd : 9 ≤ d) (hok : nm_ok X) (hM : nm_M M X) (hQ : ∀ M', nm_Fr nm_lwM M M' → nm_T238 M' (nx_S X 0) (nm_cn X) → nm_T237 M' (nx_S X 0) (nm_mkx X) → Q [] M') : am_CL d 228 [(2, 214)] M Q := by
  have o0 := hM.1.2.2.2.1.1
  have oW : nm_okW (nx_S X 0) (nx_W X) := hok.1.2.2.1
  have lay : ∀ {M1}, nm_Fr nm_lwM M M1 → nm_M M1 X := fun F => nm_M_fr hok hM F (by decide +kernel)
  refine h_228_0 (nm_M_L hM) ?_
  have key1 : ∀ m : Nat, m ≤ (nx_S X 0).toNat → ∀ M1 l2 l3, nm_Fr nm_lwM M M1 → nm_P238 M1 (nx_S X 0) (nm_cn X) (6 * (m : Int)) → nm_P237 M1 (nx_S X 0) (nm_mkx X) (48 * (m : Int)) → am_WP d am_c228 2 [(2, 214), (0, (m : Int)), l2, l3] [] M1 Q := by
    refine nm_dn ?_
    intro m hm ih1 M1 l2 l3 F1 a1 b1
    have C1 := lay F1
    refine h_228_2 (nm_M_L C1) ?_
    rw [show am_gt M1 216 0 = nx_S X 0 from C1.1.2.1 0 (.inl ⟨by decide, by decide⟩)]
    refine ⟨fun h => hQ M1 F1 (fun m' p' a b c e => a1 m' p' a b c e (by omega)) (fun m' p' h' a b c e f g => b1 m' p' h' a b c e f g (by omega)), fun h => ?_⟩
    have key2 : ∀ p : Nat, p ≤ 6 → ∀ M2 l3, nm_Fr nm_lwM M M2 → nm_P238 M2 (nx_S X 0) (nm_cn X) (6 * (m : Int) + (p : Int)) → nm_P237 M2 (nx_S X 0) (nm_mkx X) (48 * (m : Int) + 8 * (p : Int)) → am_WP d am_c228 14 [(2, 214), (0, (m : Int)), (0, (p : Int)), l3] [] M2 Q := by
      refine nm_dn ?_
      intro p hp ih2 M2 l3 F2 a2 b2
      have C2 := lay F2
      have key3 : p < 6 → ∀ j : Nat, j ≤ 8 → ∀ M3, nm_Fr nm_lwM M M3 → nm_P238 M3 (nx_S X 0) (nm_cn X) (6 * (m : Int) + (p : Int) + 1) → nm_P237 M3 (nx_S X 0) (nm_mkx X) (48 * (m : Int) + 8 * (p : Int) + (j : Int)) → am_WP d am_c228 59 [(2, 214), (0, (m : Int)), (0, (p : Int)), (0, 1 + (j : Int))] [] M3 Q := by
        intro hp6
        refine nm_dn ?_
        intro j hj ih3 M3 F3 a3 b3
        have C3 := lay F3
        refine h_228_59 (nm_M_L C3) ⟨fun h' => ?_, fun h' => ⟨by omega, ?_⟩⟩
        · rw [nm_wk (by omega)]
          refine ih2 hp6 M3 _ F3 ?_ ?_
          · rw [show 6 * (m : Int) + ((p + 1 : Nat) : Int) = 6 * (m : Int) + (p : Int) + 1 by omega]; exact a3
          · rw [show 48 * (m : Int) + 8 * ((p + 1 : Nat) : Int) = 48 * (m : Int) + 8 * (p : Int) + (j : Int) by omega]; exact b3
        · rw [nm_ix48 (by omega) (by omega) (by omega) (by omega) (by omega) (by omega)]
          refine nm_m208 (by omega) C3.1 oW (by omega) (by omega) (by omega) (by omega) (fun M4 F4 => ?_)
          have F04 : nm_Fr nm_lwM M M4 := nm_Fr_trans F3 (nm_Fr_appl F4)
          have a4 : nm_P238 M4 (nx_S X 0) (nm_cn X) (6 * (m : Int) + (p : Int) + 1) := fun m' p' a b c e f => (nm_gt_frn F4 (nm_M_L C3) (by decide) (by decide)).trans (a3 m' p' a b c e f)
          have b4 : nm_P237 M4 (nx_S X 0) (nm_mkx X) (48 * (m : Int) + 8 * (p : Int) + (1 + (j : Int)) - 1) := fun m' p' h' a b c e f g i => (nm_gt_frn F4 (nm_M_L C3) (by decide) (by decide)).trans (b3 m' p' h' a b c e f g (by omega))
          refine h_228_89 (nm_M_L (lay F04)) ⟨by omega, by omega, ?_⟩
          have := ih3 (by omega) (am_st M4 237 (48 * (m : Int) + 8 * (p : Int) + (1 + (j : Int)) - 1) (if (p : Int) < 1 + (j : Int) then nm_mkx X (m : Int) (p : Int) (1 + (j : Int)) else -1)) (nm_Fr_st F04 (nm_in_c (a := 237) (lo := 0) (hi := 288) (by decide +kernel) (by omega) (by omega))) (fun m' p' a b c e f => (nm_st_ne (by decide)).trans (a4 m' p' a b c e f)) (by
            have := nm_P237_st b4 (by omega) (by omega) (by omega) (by omega) rfl
            rw [show 48 * (m : Int) + 8 * (p : Int) + ((j + 1 : Nat) : Int) = 48 * (m : Int) + 8 * (p : Int) + (1 + (j : Int)) by omega]
            exact this)
          rw [show (1 : Int) + ((j + 1 : Nat) : Int) = 1 + (j : Int) + 1 by omega] at this
          rw [am_w_id (x := 1 + (j : Int) + 1) (by omega) (by omega)]
          exact this
      have go : p < 6 → ∀ v M3, nm_Fr nm_tg M2 M3 → (v = if nm_cn X (m : Int) (p : Int) then 1 else 0) → am_WP d am_c228 59 [(2, 214), (0, (m : Int)), (0, (p : Int)), (0, 1)] [] (am_st M3 238 (6 * (m : Int) + (p : Int)) v) Q := by
        intro hp6 v M3 F3 hv
        have F03 : nm_Fr nm_lwM M M3 := nm_Fr_trans F2 (nm_Fr_appl F3)
        have a3 : nm_P238 M3 (nx_S X 0) (nm_cn X) (6 * (m : Int) + (p : Int)) := fun m' p' a b c e f => (nm_gt_frn F3 (nm_M_L C2) (by decide) (by decide)).trans (a2 m' p' a b c e f)
        have b3 : nm_P237 M3 (nx_S X 0) (nm_mkx X) (48 * (m : Int) + 8 * (p : Int)) := fun m' p' h' a b c e f g i => (nm_gt_frn F3 (nm_M_L C2) (by decide) (by decide)).trans (b2 m' p' h' a b c e f g i)
        have := key3 hp6 0 (Nat.zero_le _) (am_st M3 238 (6 * (m : Int) + (p : Int)) v) (nm_Fr_st F03 (nm_in_c (a := 238) (lo := 0) (hi := 36) (by decide +kernel) (by omega) (by omega))) (nm_P238_st a3 (by omega) (by omega) hv) (fun m' p' h' a b c e f g i => (nm_st_ne (by decide)).trans (b3 m' p' h' a b c e f g (by omega)))
        rw [show (1 : Int) + ((0 : Nat) : Int) = 1 by omega] at this
        exact this
      refine h_228_14 (nm_M_L C2) ⟨fun h' => ?_, fun h' => ?_⟩
      · rw [nm_wk (by omega)]
        refine ih1 (by omega) M2 _ _ F2 ?_ ?_
        · rw [show 6 * ((m + 1 : Nat) : Int) = 6 * (m : Int) + (p : Int) by omega]; exact a2
        · rw [show 48 * ((m + 1 : Nat) : Int) = 48 * (m : Int) + 8 * (p : Int) by omega]; exact b2
      · rw [am_w_id (x := 15 + (m : Int)) (by omega) (by omega), am_w_id (x := 6 * (m : Int)) (by omega) (by omega), am_w_id (x := 6 * (m : Int) + (p : Int)) (by omega) (by omega), C2.1.2.2.1.2.2.2.2.1 (m : Int) (by omega) (by omega)]
        refine ⟨by omega, by omega, fun hs => ⟨by omega, by omega, ?_⟩, fun hs => ⟨by omega, nm_m211 (by omega) C2.1 oW (by omega) (by omega) (by omega) (fun M3 F3 => ?_)⟩⟩
        · refine go (by omega) 0 M2 (nm_Fg_refl _ _) ?_
          rw [show nm_cn X (m : Int) (p : Int) = false by unfold nm_cn; rw [decide_eq_false (by omega), Bool.false_and]]
          rfl
        · have hcn : nm_cn X (m : Int) (p : Int) = !nm_bar (nx_S X) (nx_W X) (nm_lwf (nx_S X) (nx_D X)) (m : Int) (p : Int) := by
            unfold nm_cn; rw [decide_eq_true (by omega), Bool.true_and]
          have hL3 := nm_Lay_fr (nm_M_L C2) F3 (by decide +kernel)
          cases hb : nm_bar (nx_S X) (nx_W X) (nm_lwf (nx_S X) (nx_D X)) (m : Int) (p : Int)
          · refine h_228_48 hL3 ⟨fun c => absurd rfl c, fun _ => ⟨by omega, by omega, go (by omega) 1 M3 F3 ?_⟩⟩
            rw [hcn, hb]; rfl
          · refine h_228_48 hL3 ⟨fun _ => ⟨by omega, by omega, go (by omega) 0 M3 F3 ?_⟩, fun c => absurd (show ((if true = true then (1 : Int) else 0)) ≠ 0 by decide) c⟩
            rw [hcn, hb]; rfl
    exact key2 0 (by decide) M1 _ F1 (fun m' p' a b c e f => a1 m' p' a b c e (by omega)) (fun m' p' h' a b c e f g i => b1 m' p' h' a b c e f g (by omega))
  exact key1 0 (Nat.zero_le _) M _ _ (nm_Fg_refl _ _) (fun m' p' a b c e f => absurd f (by omega)) (fun m' p' h' a b c e f g i => absurd i (by omega))
theorem nmm_227 {d : Nat} {N m p h : Int} {mk : Int → Int → Int → Int} {M : am_M} {Q : List am_V → am_M → Prop} (hL : nm_Lay M) (ht : nm_T237 M N mk) (N6 : N ≤ 6) (m0 : 0 ≤ m) (m1 : m < N) (p0 : 0 ≤ p) (p1 : p < 6) (h0 : 1 ≤ h) (h1 : h ≤ 8) (hp : p < h) (hQ : Q [(0, mk m p h)] M) : am_CL d 227 [(2, 214), (0, m), (0, p), (0, h)] M Q := by
  refine h_227_0 hL ?_
  rw [nm_ix48 m0 (by omega) p0 p1 (by omega) h1, ht m p h m0 m1 p0 p1 h0 h1, if_pos hp]
  exact ⟨by omega, by omega, hQ⟩
/-- what the first n of a line make by the hour H -/
def nm_ms (mk : Int → Int → Int → Int) (H : Int) (a : Int → Int) : Nat → List Int
  | 0 => []
  | j + 1 => nm_ms mk H a j ++ nm_hs (fun h => mk (a (j : Int)) (j : Int) h) ((j : Int) + 1) (H - (j : Int)).toNat
theorem nm_ms_congr {mk : Int → Int → Int → Int} {H : Int} {a b : Int → Int} : ∀ {n : Nat}, (∀ q : Nat, q < n → a (q : Int) = b (q : Int)) → nm_ms mk H a n = nm_ms mk H b n
  | 0, _ => rfl
  | n + 1, h => by
    show nm_ms mk H a n ++ nm_hs (fun h => mk (a (n : Int)) (n : Int) h) _ _ = nm_ms mk H b n ++ nm_hs (fun h => mk (b (n : Int)) (n : Int) h) _ _
    rw [nm_ms_congr (fun q hq => h q (by omega)), h n (by omega)]
theorem nm_ms_cons {mk : Int → Int → Int → Int} {H m : Int} {T : List Int} : nm_ms mk H (nm_at (m :: T)) (m :: T).length = nm_ms mk H (nm_at T) T.length ++ nm_hs (fun h => mk m (T.length : Int) h) ((T.length : Int) + 1) (H - (T.length : Int)).toNat := by
  show nm_ms mk H (nm_at (m :: T)) T.length ++ nm_hs (fun h => mk (nm_at (m :: T) (T.length : Int)) (T.length : Int) h) _ _ = _
  rw [show nm_at (m :: T) (T.length : Int) = m from if_pos rfl, nm_ms_congr (b := nm_at T) (fun q hq => if_neg (by omega))]
theorem nm_ms_len {mk : Int → Int → Int → Int} {H : Int} {a : Int → Int} (H8 : H ≤ 8) : ∀ n : Nat, (nm_ms mk H a n).length ≤ 8 * n
  | 0 => Nat.le_refl _
  | n + 1 => by
    show (nm_ms mk H a n ++ nm_hs _ _ _).length ≤ _
    have := nm_ms_len (mk := mk) (a := a) H8 n
    rw [List.length_append, nm_hs_len]; omega
def nm_ab (x : Int) : Int := if 0 ≤ x then x else -x
theorem nm_ab_in {x b : Int} (h1 : -b ≤ x) (h2 : x ≤ b) : 0 ≤ nm_ab x ∧ nm_ab x ≤ b := by unfold nm_ab; split <;> omega
/-- how far what is made is from what the clock asks -/
def nm_off (c : Int → Int) (l : List Int) : Int := nm_sm (fun q => nm_ab ((l.count q : Int) - c q)) 8
theorem nm_off_in {c : Int → Int} {l : List Int} (hl : l.length ≤ 100) (hc : ∀ q, 0 ≤ q → q < 8 → 0 ≤ c q ∧ c q ≤ 3) (k : Nat) (hk : k ≤ 8) : 0 ≤ nm_sm (fun q => nm_ab ((l.count q : Int) - c q)) k ∧ nm_sm (fun q => nm_ab ((l.count q : Int) - c q)) k ≤ (k : Int) * 100 := nm_sm_in (fun i hi => by
  have h1 := hc (i : Int) (by omega) (by omega)
  have h2 : l.count (i : Int) ≤ l.length := List.count_le_length
  exact nm_ab_in (by omega) (by omega))
abbrev nm_ofM : nm_Rg := [(235, 0, 8)]
theorem nmm_231 {d n : Nat} {H : Int} {X : nm_X} {T : List Int} {M : am_M} {Q : List am_V → am_M → Prop} (hd : 1 ≤ d) (hok : nm_ok X) (hM : nm_M M X) (ht : nm_T237 M (nx_S X 0) (nm_mkx X)) (hT : nm_MTn M T) (hi : nm_inN (nx_S X 0) T) (hl : T.length = n) (n6 : n ≤ 6) (H0 : 1 ≤ H) (H8 : H ≤ 8) (hQ : ∀ M', nm_Fr nm_ofM M M' → Q [(0, nm_off (fun q => nx_S X (77 + q)) (nm_ms (nm_mkx X) H (nm_at T) n))] M') : am_CL d 231 [(2, 214), (0, (n : Int)), (0, H)] M Q := by
  have o0 := hM.1.2.2.2.1.1
  have oc := hM.1.2.2.2.1.2.2.2.2.2.2.2.2.2.2.2.1
  have lay : ∀ {M1}, nm_Fr nm_ofM M M1 → nm_M M1 X := fun F => nm_M_fr hok hM F (by decide +kernel)
  refine h_231_0 (nm_M_L hM) ?_
  have lst : ∀ M1, nm_Fr nm_ofM M M1 → (∀ q, 0 ≤ q → q < 8 → am_gt M1 235 q = ((nm_ms (nm_mkx X) H (nm_at T) n).count q : Int) - nx_S X (77 + q)) → ∀ k : Nat, k ≤ 8 → am_WP d am_c231 87 [(2, 214), (0, (n : Int)), (0, H), (0, nm_sm (fun q => nm_ab (((nm_ms (nm_mkx X) H (nm_at T) n).count q : Int) - nx_S X (77 + q))) k), (0, (k : Int))] [] M1 Q := by
    intro M1 F1 a1
    have hlen := nm_ms_len (mk := nm_mkx X) (a := nm_at T) H8 n
    refine nm_dn ?_
    intro k hk ih
    have b1 := nm_off_in (l := nm_ms (nm_mkx X) H (nm_at T) n) (c := fun q => nx_S X (77 + q)) (by omega) oc k hk
    refine h_231_87 (nm_M_L (lay F1)) ⟨fun h => ?_, fun h => ?_⟩
    · have hk8 : k = 8 := by omega
      subst hk8
      exact hQ M1 F1
    · have h1 := oc (k : Int) (by omega) (by omega)
      have h2 : (nm_ms (nm_mkx X) H (nm_at T) n).count (k : Int) ≤ (nm_ms (nm_mkx X) H (nm_at T) n).length := List.count_le_length
      rw [a1 (k : Int) (by omega) (by omega), nm_wk (by omega)]
      have nx := ih (by omega)
      have es : nm_sm (fun q => nm_ab (((nm_ms (nm_mkx X) H (nm_at T) n).count q : Int) - nx_S X (77 + q))) (k + 1) = nm_sm (fun q => nm_ab (((nm_ms (nm_mkx X) H (nm_at T) n).count q : Int) - nx_S X (77 + q))) k + nm_ab (((nm_ms (nm_mkx X) H (nm_at T) n).count (k : Int) : Int) - nx_S X (77 + (k : Int))) := rfl
      rw [es] at nx
      have hy : -3 ≤ ((nm_ms (nm_mkx X) H (nm_at T) n).count (k : Int) : Int) - nx_S X (77 + (k : Int)) ∧ ((nm_ms (nm_mkx X) H (nm_at T) n).count (k : Int) : Int) - nx_S X (77 + (k : Int)) ≤ 100 := by omega
      generalize nm_sm (fun q => nm_ab (((nm_ms (nm_mkx X) H (nm_at T) n).count q : Int) - nx_S X (77 + q))) k = s at nx b1 ⊢
      generalize ((nm_ms (nm_mkx X) H (nm_at T) n).count (k : Int) : Int) - nx_S X (77 + (k : Int)) = y at nx hy ⊢ 
      refine ⟨by omega, by omega, fun hp => ?_, fun hp => ?_⟩
      · rw [show nm_ab y = y from if_pos hp] at nx
        rw [am_w_id (x := s + y) (by omega) (by omega)]; exact nx
      · rw [show nm_ab y = -y from if_neg hp] at nx
        rw [am_w_id (x := -y) (by omega) (by omega), am_w_id (x := s + -y) (by omega) (by omega)]; exact nx
  have pos : ∀ j : Nat, j ≤ n → ∀ M1 l4, nm_Fr nm_ofM M M1 → (∀ q, 0 ≤ q → q < 8 → am_gt M1 235 q = ((nm_ms (nm_mkx X) H (nm_at T) j).count q : Int) - nx_S X (77 + q)) → am_WP d am_c231 32 [(2, 214), (0, (n : Int)), (0, H), (0, (j : Int)), l4] [] M1 Q := by
    refine nm_dn ?_
    intro j hj ih M1 l4 F1 a1
    refine h_231_32 (nm_M_L (lay F1)) ⟨fun h => ?_, fun h => ?_⟩
    · have hjn : j = n := by omega
      subst hjn
      exact lst M1 F1 a1 0 (by decide)
    · have hm := hi _ (nm_at_in (T := T) (q := (j : Int)) (by omega) (by omega))
      have hlen := nm_ms_len (mk := nm_mkx X) (a := nm_at T) H8 j
      have inner : ∀ i : Nat, i ≤ (H - (j : Int)).toNat → ∀ M2, nm_Fr nm_ofM M M2 → (∀ q, 0 ≤ q → q < 8 → am_gt M2 235 q = ((nm_ms (nm_mkx X) H (nm_at T) j ++ nm_hs (fun h => nm_mkx X (nm_at T (j : Int)) (j : Int) h) ((j : Int) + 1) i).count q : Int) - nx_S X (77 + q)) → am_WP d am_c231 42 [(2, 214), (0, (n : Int)), (0, H), (0, (j : Int)), (0, (j : Int) + 1 + (i : Int))] [] M2 Q := by
        refine nm_dn ?_
        intro i hii ihi M2 F2 a2
        have hL2 := nm_M_L (lay F2)
        refine h_231_42 hL2 ⟨fun h' => ?_, fun h' => ⟨by omega, by omega, by omega, ?_⟩⟩
        · have he : i = (H - (j : Int)).toNat := by omega
          rw [nm_wk (by omega)]
          refine ih (by omega) M2 _ F2 (fun q x y => ?_)
          rw [a2 q x y, he]; rfl
        · rw [(nm_gt_frn F2 (nm_M_L hM) (by decide) (by decide)).trans (hT (j : Int) (by omega) (by omega))]
          refine nmm_227 (N := nx_S X 0) (mk := nm_mkx X) hL2 (fun m' p' h'' a b c e f g => (nm_gt_frn F2 (nm_M_L hM) (by decide) (by decide)).trans (ht m' p' h'' a b c e f g)) o0.2 hm.1 hm.2 (by omega) (by omega) (by omega) (by omega) (by omega) ?_
          have hin := nm_mkx_in (X := X) (m := nm_at T (j : Int)) (p := (j : Int)) (h := (j : Int) + 1 + (i : Int))
          have hc : ((nm_ms (nm_mkx X) H (nm_at T) j ++ nm_hs (fun h => nm_mkx X (nm_at T (j : Int)) (j : Int) h) ((j : Int) + 1) i).count (nm_mkx X (nm_at T (j : Int)) (j : Int) ((j : Int) + 1 + (i : Int))) : Nat) ≤ 100 := by
            have := List.count_le_length (a := nm_mkx X (nm_at T (j : Int)) (j : Int) ((j : Int) + 1 + (i : Int))) (l := nm_ms (nm_mkx X) H (nm_at T) j ++ nm_hs (fun h => nm_mkx X (nm_at T (j : Int)) (j : Int) h) ((j : Int) + 1) i)
            rw [List.length_append, nm_hs_len] at this
            omega
          have hcl := oc _ hin.1 (by omega)
          refine h_231_65 hL2 ⟨hin.1, by omega, ?_⟩
          rw [am_w_id (x := (j : Int) + 1 + (i : Int) + 1) (by omega) (by omega), a2 _ hin.1 (by omega), am_w_id (x := _ + 1) (by omega) (by omega), show (j : Int) + 1 + (i : Int) + 1 = (j : Int) + 1 + ((i + 1 : Nat) : Int) by omega]
          refine ihi (by omega) _ (nm_Fr_st F2 (nm_in_c (a := 235) (lo := 0) (hi := 8) (by decide +kernel) hin.1 (by omega))) (fun q x y => ?_)
          rw [nm_hs_succ, ← List.append_assoc, nm_count1, nm_gt_st]
          by_cases hq : q = nm_mkx X (nm_at T (j : Int)) (j : Int) ((j : Int) + 1 + (i : Int))
          · rw [if_pos ⟨rfl, hq⟩, if_pos hq.symm, ← hq]; omega
          · rw [if_neg (fun c => hq c.2), if_neg (fun c => hq c.symm), a2 q x y]; omega
      have h0 := inner 0 (Nat.zero_le _) M1 F1
      rw [show nm_hs (fun h => nm_mkx X (nm_at T (j : Int)) (j : Int) h) ((j : Int) + 1) 0 = [] from rfl, List.append_nil, show (j : Int) + 1 + ((0 : Nat) : Int) = (j : Int) + 1 by omega] at h0
      rw [am_w_id (by omega) (by omega)]
      exact h0 a1
  have zero : ∀ k : Nat, k ≤ 8 → ∀ M1, nm_Fr nm_ofM M M1 → (∀ q, 0 ≤ q → q < (k : Int) → am_gt M1 235 q = -nx_S X (77 + q)) → am_WP d am_c231 2 [(2, 214), (0, (n : Int)), (0, H), (0, (k : Int)), (9, 0)] [] M1 Q := by
    refine nm_dn ?_
    intro k hk ih M1 F1 a1
    refine h_231_2 (nm_M_L (lay F1)) ⟨fun h => ?_, fun h => ?_⟩
    · exact pos 0 (Nat.zero_le _) M1 _ F1 (fun q x y => by rw [a1 q x (by omega)]; show _ = ((([] : List Int).count q : Nat) : Int) - _; rw [List.count_nil]; omega)
    · rw [am_w_id (x := 77 + (k : Int)) (by omega) (by omega), (lay F1).1.2.1 (77 + (k : Int)) (.inr (.inr ⟨by omega, by omega⟩)), nm_wk (by omega)]
      have h1 := oc (k : Int) (by omega) (by omega)
      rw [am_w_id (x := -nx_S X (77 + (k : Int))) (by omega) (by omega)]
      refine ⟨by omega, by omega, by omega, by omega, ih (by omega) _ (nm_Fr_st F1 (nm_in_c (a := 235) (lo := 0) (hi := 8) (by decide +kernel) (by omega) (by omega))) (fun q x y => ?_)⟩
      rw [nm_gt_st]
      by_cases hq : q = (k : Int)
      · rw [if_pos ⟨rfl, hq⟩, hq]
      · rw [if_neg (fun c => hq c.2)]; exact a1 q x (by omega)
  exact zero 0 (Nat.zero_le _) M (nm_Fg_refl _ _) (fun q x y => absurd y (by omega))
/-- what the first n of a line make at the hour h, as bits -/
def nm_mb (mk : Int → Int → Int → Int) (h : Int) (a : Int → Int) : Nat → Int
  | 0 => 0
  | k + 1 => am_or (nm_mb mk h a k) (am_shl 1 (mk (a (k : Int)) (k : Int) h))
theorem nm_mb_in {X : nm_X} {h : Int} {a : Int → Int} : ∀ n : Nat, 0 ≤ nm_mb (nm_mkx X) h a n ∧ nm_mb (nm_mkx X) h a n ≤ 255
  | 0 => ⟨Int.le_refl 0, show (0 : Int) ≤ 255 by decide⟩
  | n + 1 => by
    obtain ⟨h1, h2⟩ := nm_mb_in (X := X) (h := h) (a := a) n
    have hin := nm_mkx_in (X := X) (m := a (n : Int)) (p := (n : Int)) (h := h)
    exact (nm_o8 h1 h2 hin.1 hin.2).1
theorem nmm_236 {d n : Nat} {h : Int} {X : nm_X} {T : List Int} {M : am_M} {Q : List am_V → am_M → Prop} (hd : 1 ≤ d) (hL : nm_Lay M) (N6 : nx_S X 0 ≤ 6) (ht : nm_T237 M (nx_S X 0) (nm_mkx X)) (hT : nm_MTn M T) (hi : nm_inN (nx_S X 0) T) (hl : T.length = n) (n6 : n ≤ 6) (h0 : 1 ≤ h) (h8 : h ≤ 8) (hQ : Q [(0, nm_mb (nm_mkx X) h (nm_at T) (min n h.toNat))] M) : am_CL d 236 [(2, 214), (0, (n : Int)), (0, h)] M Q := by
  refine h_236_0 hL ?_
  have key : ∀ k : Nat, k ≤ min n h.toNat → am_WP d am_c236 5 [(2, 214), (0, (n : Int)), (0, h), (0, nm_mb (nm_mkx X) h (nm_at T) k), (0, (k : Int))] [] M Q := by
    refine nm_dn ?_
    intro k hk ih
    refine h_236_5 hL ⟨fun c => ?_, fun c => ⟨fun c' => ?_, fun c' => ⟨by omega, by omega, by omega, ?_⟩⟩⟩
    · rw [show k = min n h.toNat by omega]; exact hQ
    · rw [show k = min n h.toNat by omega]; exact hQ
    · have hm := hi _ (nm_at_in (T := T) (q := (k : Int)) (by omega) (by omega))
      rw [hT (k : Int) (by omega) (by omega)]
      refine nmm_227 (N := nx_S X 0) (mk := nm_mkx X) hL ht N6 hm.1 hm.2 (by omega) (by omega) h0 h8 (by omega) (h_236_33 hL ?_)
      rw [nm_wk (by omega)]
      exact ih (by omega)
  exact key 0 (Nat.zero_le _)
/-- heard: the first k of what was heard agree -/
def nm_hd (S : Int → Int) (mk : Int → Int → Int → Int) (T : List Int) : Nat → Bool
  | 0 => true
  | k + 1 => nm_hd S mk T k && decide (am_and (am_shr (nm_mb mk (S (85 + 3 * (k : Int))) (nm_at T) (min T.length (S (85 + 3 * (k : Int))).toNat)) (S (86 + 3 * (k : Int)))) 1 = S (87 + 3 * (k : Int)))
theorem nm_hd_mono {S : Int → Int} {mk : Int → Int → Int → Int} {T : List Int} {k : Nat} (h : nm_hd S mk T k = false) : ∀ j : Nat, nm_hd S mk T (k + j) = false
  | 0 => h
  | j + 1 => by
    show (nm_hd S mk T (k + j) && _) = false
    rw [nm_hd_mono h j, Bool.false_and]
def nm_heard (X : nm_X) (T : List Int) : Bool := nm_hd (nx_S X) (nm_mkx X) T (nx_S X 1).toNat
theorem nmm_237 {d n : Nat} {X : nm_X} {T : List Int} {M : am_M} {Q : List am_V → am_M → Prop} (hd : 2 ≤ d) (hM : nm_M M X) (ht : nm_T237 M (nx_S X 0) (nm_mkx X)) (hT : nm_MTn M T) (hi : nm_inN (nx_S X 0) T) (hl : T.length = n) (n6 : n ≤ 6) (hQ : Q [(0, if nm_heard X T then 1 else 0)] M) : am_CL d 237 [(2, 214), (0, (n : Int))] M Q := by
  have o := hM.1.2.2.2.1
  have oh := o.2.2.2.2.2.2.2.2.2.2.2.2
  have hL := nm_M_L hM
  have hS := hM.1.2.1
  refine h_237_0 hL ?_
  have o1 := o.2.1
  have key : ∀ k : Nat, k ≤ (nx_S X 1).toNat → am_WP d am_c237 4 [(2, 214), (0, (n : Int)), (0, if nm_hd (nx_S X) (nm_mkx X) T k then 1 else 0), (0, (k : Int))] [] M Q := by
    refine nm_dn ?_
    intro k hk ih
    refine h_237_4 hL ?_
    rw [hS 1 (.inl ⟨by decide, by decide⟩)]
    have e : nm_hd (nx_S X) (nm_mkx X) T (k + 1) = (nm_hd (nx_S X) (nm_mkx X) T k && decide (am_and (am_shr (nm_mb (nm_mkx X) (nx_S X (85 + 3 * (k : Int))) (nm_at T) (min T.length (nx_S X (85 + 3 * (k : Int))).toNat)) (nx_S X (86 + 3 * (k : Int)))) 1 = nx_S X (87 + 3 * (k : Int)))) := rfl
    refine ⟨fun c => ⟨by split <;> omega, ?_⟩, fun c => ?_⟩
    · have : k = (nx_S X 1).toNat := by omega
      rw [this]; exact hQ
    · cases hc : nm_hd (nx_S X) (nm_mkx X) T k
      · refine ⟨fun _ => ⟨.inl rfl, ?_⟩, fun c => absurd rfl c⟩
        have := nm_hd_mono hc ((nx_S X 1).toNat - k)
        rw [show k + ((nx_S X 1).toNat - k) = (nx_S X 1).toNat by omega] at this
        rw [show nm_heard X T = false from this] at hQ
        exact hQ
      · have hk1 := oh (k : Int) (by omega) (by omega)
        rw [am_w_id (x := 3 * (k : Int)) (by omega) (by omega), am_w_id (x := 85 + 3 * (k : Int)) (by omega) (by omega), hS (85 + 3 * (k : Int)) (.inr (.inr ⟨by omega, by omega⟩))]
        refine ⟨fun c => absurd c (by decide), fun _ => ⟨by omega, by omega, by omega, nmm_236 (X := X) (T := T) (by omega) hL o.1.2 ht hT hi hl n6 (by omega) (by omega) ?_⟩⟩
        refine h_237_34 hL ?_
        rw [am_w_id (x := 3 * (k : Int)) (by omega) (by omega), am_w_id (x := 85 + 3 * (k : Int)) (by omega) (by omega), am_w_id (x := 85 + 3 * (k : Int) + 1) (by omega) (by omega), am_w_id (x := 85 + 3 * (k : Int) + 2) (by omega) (by omega), hS (85 + 3 * (k : Int) + 1) (.inr (.inr ⟨by omega, by omega⟩)), hS (85 + 3 * (k : Int) + 2) (.inr (.inr ⟨by omega, by omega⟩)), show 85 + 3 * (k : Int) + 1 = 86 + 3 * (k : Int) by omega, show 85 + 3 * (k : Int) + 2 = 87 + 3 * (k : Int) by omega, nm_wk (by omega)]
        have nx := ih (by omega)
        rw [e, hc, Bool.true_and, hl] at nx
        refine ⟨by omega, by omega, by omega, by omega, fun g => ?_, fun g => ?_⟩
        · rw [decide_eq_false g] at nx; exact nx
        · rw [decide_eq_true (Decidable.of_not_not g)] at nx; exact nx
  exact key 0 (Nat.zero_le _)
