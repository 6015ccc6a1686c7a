/-! THE REFERENCE'S TOKENS -/
def rm_tp (M : am_M) (T : tk_T) : Prop := am_gt M 214 13 = T.2 ∧ ∀ i, 0 ≤ i → i < T.2 → am_gt M 223 i = T.1 i
def rm_tk (M : am_M) (T : tk_T) (s : Int) : Prop := am_gt M 214 14 = tk_b T s ∧ am_gt M 214 15 = tk_e T s ∧ am_gt M 214 16 = tk_k T s ∧ am_gt M 214 17 = tk_w T s
abbrev rm_sg : nm_Rg := [(214, 14, 18)]
theorem rm_173 {d : Nat} {c : Int} {M : am_M} {Q : List am_V → am_M → Prop} (hL : nm_Lay M) (hy : tk_sm c = true → Q [(0, 1)] M) (hn : tk_sm c = false → Q [(0, 0)] M) : am_CL d 173 [(0, c)] M Q :=
  h_173_0 hL ⟨fun h => hn (decide_eq_false (by omega)), fun h => ⟨fun h2 => hn (decide_eq_false (by omega)), fun h2 => hy (decide_eq_true (by omega))⟩⟩
theorem rm_174 {d : Nat} {c : Int} {M : am_M} {Q : List am_V → am_M → Prop} (hL : nm_Lay M) (hy : tk_dg c = true → Q [(0, 1)] M) (hn : tk_dg c = false → Q [(0, 0)] M) : am_CL d 174 [(0, c)] M Q :=
  h_174_0 hL ⟨fun h => hn (decide_eq_false (by omega)), fun h => ⟨fun h2 => hn (decide_eq_false (by omega)), fun h2 => hy (decide_eq_true (by omega))⟩⟩
theorem tk_wv_b {P : Int → Int} {b : Int} : ∀ n : Nat, n ≤ 10 → (∀ i : Nat, i < n → 97 ≤ P (b + (i : Int)) ∧ P (b + (i : Int)) ≤ 122) → 0 ≤ tk_wv P b n ∧ tk_wv P b n < ((32 ^ n : Nat) : Int)
  | 0, _, _ => by simp only [tk_wv]; exact ⟨Int.le_refl _, by decide⟩
  | n + 1, hn, h => by
    have h1 := tk_wv_b n (by omega) (fun i hi => h i (by omega))
    have h2 := h n (by omega)
    simp only [tk_wv]
    rw [if_pos (by omega), Nat.pow_succ]
    generalize 32 ^ n = p at h1
    omega
theorem tk_wv_m9 {P : Int → Int} {b : Int} {n : Nat} (hn : n < 10) (h : ∀ i : Nat, i < n → 97 ≤ P (b + (i : Int)) ∧ P (b + (i : Int)) ≤ 122) : 0 ≤ tk_wv P b n ∧ tk_wv P b n < 35184372088832 := by
  have h1 := tk_wv_b n (by omega) h
  have h2 : 32 ^ n ≤ 32 ^ 9 := Nat.pow_le_pow_right (by decide) (by omega)
  rw [show (32 : Nat) ^ 9 = 35184372088832 by decide] at h2
  generalize 32 ^ n = p at h1 h2
  omega
theorem rm_176 {d : Nat} {T : tk_T} {s : Int} {M : am_M} {Q : List am_V → am_M → Prop} (hd : 1 ≤ d) (hL : nm_Lay M) (hT : tk_ok T) (hP : rm_tp M T) (hs : am_gt M 214 15 = s) (h0 : 0 ≤ s) (h1 : s ≤ T.2) (hQ : ∀ M', nm_Fr rm_sg M M' → rm_tk M' T s → Q [] M') : am_CL d 176 [(2, 214)] M Q := by
  obtain ⟨t0, t4, tc⟩ := hT
  obtain ⟨b1, b2⟩ := tk_bb h1
  obtain ⟨e1, e2, e3⟩ := tk_eb h1
  have z : ((214, 14, 18) : Int × Int × Int) ∈ rm_sg := List.mem_singleton.mpr rfl
  have lay : ∀ {M'}, nm_Fr rm_sg M M' → nm_Lay M' := fun F => nm_Lay_fr hL F (by decide +kernel)
  have kL : ∀ {M'}, nm_Fr rm_sg M M' → am_gt M' 214 13 = T.2 := fun F => (nm_gt_frd (g := [(214, 13, 14)]) F hL (by decide) (by decide) (by decide)).trans hP.1
  have kP : ∀ {M'}, nm_Fr rm_sg M M' → ∀ i, 0 ≤ i → i < T.2 → am_gt M' 223 i = T.1 i := fun F i a b => (nm_gt_frn F hL (by decide) (by decide)).trans (hP.2 i a b)
  have st2 : ∀ (M1 : am_M) (x v : Int), nm_Fr rm_sg M M1 → nm_Fr rm_sg M (am_st (am_st M1 214 17 v) 214 15 x) := fun M1 x v F => nm_Fst (nm_Fst F z (by decide) (by decide)) z (by decide) (by decide)
  have g14 : ∀ (M1 : am_M) (x v : Int), am_gt (am_st (am_st M1 214 17 v) 214 15 x) 214 14 = am_gt M1 214 14 := fun M1 x v => by rw [nm_gt_st, if_neg (by decide), nm_gt_st, if_neg (by decide)]
  have g15 : ∀ (M1 : am_M) (x v : Int), am_gt (am_st (am_st M1 214 17 v) 214 15 x) 214 15 = x := fun M1 x v => by rw [nm_gt_st, if_pos ⟨rfl, rfl⟩]
  have g16 : ∀ (M1 : am_M) (x v : Int), am_gt (am_st (am_st M1 214 17 v) 214 15 x) 214 16 = am_gt M1 214 16 := fun M1 x v => by rw [nm_gt_st, if_neg (by decide), nm_gt_st, if_neg (by decide)]
  have g17 : ∀ (M1 : am_M) (x v : Int), am_gt (am_st (am_st M1 214 17 v) 214 15 x) 214 17 = v := fun M1 x v => by rw [nm_gt_st, if_neg (by decide), nm_gt_st, if_pos ⟨rfl, rfl⟩]
  have digs : tk_k T s = 2 → ∀ (n k : Nat) (M1 : am_M), (T.2 - (tk_b T s + (k : Int))).toNat ≤ n → tk_b T s + (k : Int) ≤ T.2 → tk_to (fun i => tk_dg (T.1 i)) T.2 (tk_b T s + (k : Int)) = tk_e T s → nm_Fr rm_sg M M1 → am_gt M1 214 14 = tk_b T s → am_gt M1 214 15 = tk_b T s + (k : Int) → am_gt M1 214 16 = 2 → am_gt M1 214 17 = tk_dv T.1 (tk_b T s) k → (∀ i : Nat, i < k → 48 ≤ T.1 (tk_b T s + (i : Int)) ∧ T.1 (tk_b T s + (i : Int)) ≤ 57) → am_WP d am_c176 243 [(2, 214)] [] M1 Q := by
    intro hk n
    induction n with
    | zero =>
      intro k M1 hn hx ht F a14 a15 a16 a17 hd'
      have hte : tk_e T s = tk_b T s + (k : Int) := by rw [← ht, tk_to_end (by omega)]
      have hlen : tk_len T s = k := by unfold tk_len; omega
      refine h_176_243 (lay F) ⟨fun h => absurd a16 h, fun _ => ⟨fun _ => hQ M1 F ⟨a14, a15.trans hte.symm, a16.trans hk.symm, ?_⟩, fun h => ?_⟩⟩
      · rw [a17]; unfold tk_w; rw [if_neg (by omega), if_neg (by omega), if_pos hk, hlen]
      · rw [kL F, a15] at h; omega
    | succ n ih =>
      intro k M1 hn hx ht F a14 a15 a16 a17 hd'
      have stop : tk_e T s = tk_b T s + (k : Int) → Q [] M1 := by
        intro hte
        have hlen : tk_len T s = k := by unfold tk_len; omega
        refine hQ M1 F ⟨a14, a15.trans hte.symm, a16.trans hk.symm, ?_⟩
        rw [a17]; unfold tk_w; rw [if_neg (by omega), if_neg (by omega), if_pos hk, hlen]
      refine h_176_243 (lay F) ⟨fun h => absurd a16 h, fun _ => ?_⟩
      rw [kL F, a15]
      refine ⟨fun h => stop (by rw [← ht, tk_to_end (by omega)]), fun h => ⟨by omega, by omega, hd, ?_⟩⟩
      rw [kP F _ (by omega) (by omega)]
      refine rm_174 (lay F) (fun hy => ?_) (fun hn' => ?_)
      · refine h_176_274 (lay F) ⟨fun h => absurd h (by decide), fun _ => ?_⟩
        have hdg := of_decide_eq_true hy
        have hb := tk_dv_b k hd'
        rw [a17, a15, nm_lc2, am_w_id (x := tk_b T s + (k : Int) + 1) (by omega) (by omega)]
        have hx1 : tk_b T s + (k : Int) + 1 = tk_b T s + ((k + 1 : Nat) : Int) := by omega
        have nx : ∀ v, v = tk_dv T.1 (tk_b T s) (k + 1) → am_WP d am_c176 243 [(2, 214)] [] (am_st (am_st M1 214 17 v) 214 15 (tk_b T s + (k : Int) + 1)) Q := by
          intro v hv
          refine ih (k + 1) _ (by omega) (by omega) ?_ (st2 _ _ _ F) (by rw [g14]; exact a14) (by rw [g15]; exact hx1) (by rw [g16]; exact a16) (by rw [g17]; exact hv) ?_
          · rw [← ht, ← hx1]; exact (tk_to_go (p := fun i => tk_dg (T.1 i)) (by omega) hy).symm
          · intro i hi
            by_cases hik : i = k
            · rw [hik]; omega
            · exact hd' i (by omega)
        refine ⟨fun h2 => ⟨by omega, by omega, ?_⟩, fun h2 => nx _ ?_⟩
        · rw [kP F _ (by omega) (by omega), am_wl_id (x := tk_dv T.1 (tk_b T s) k * 10) (by omega) (by omega), am_wl_id (x := tk_dv T.1 (tk_b T s) k * 10 + T.1 (tk_b T s + (k : Int))) (by omega) (by omega), am_wl_id (by omega) (by omega)]
          refine nx _ ?_
          simp only [tk_dv]; rw [if_neg (by omega)]
        · simp only [tk_dv]; rw [if_pos (by omega)]
      · refine h_176_274 (lay F) ⟨fun _ => stop ?_, fun h => absurd rfl h⟩
        rw [← ht, tk_to_no (p := fun i => tk_dg (T.1 i)) hn']
  have lets : tk_k T s = 1 → ∀ (n k : Nat) (M1 : am_M), (T.2 - (tk_b T s + (k : Int))).toNat ≤ n → tk_b T s + (k : Int) ≤ T.2 → tk_to (fun i => tk_sm (T.1 i)) T.2 (tk_b T s + (k : Int)) = tk_e T s → nm_Fr rm_sg M M1 → am_gt M1 214 14 = tk_b T s → am_gt M1 214 15 = tk_b T s + (k : Int) → am_gt M1 214 16 = 1 → am_gt M1 214 17 = tk_wv T.1 (tk_b T s) k → (∀ i : Nat, i < k → 97 ≤ T.1 (tk_b T s + (i : Int)) ∧ T.1 (tk_b T s + (i : Int)) ≤ 122) → am_WP d am_c176 149 [(2, 214)] [] M1 Q := by
    intro hk n
    have stop : ∀ (k : Nat) (M1 : am_M), nm_Fr rm_sg M M1 → am_gt M1 214 14 = tk_b T s → am_gt M1 214 15 = tk_b T s + (k : Int) → am_gt M1 214 16 = 1 → am_gt M1 214 17 = tk_wv T.1 (tk_b T s) k → tk_e T s = tk_b T s + (k : Int) → am_WP d am_c176 243 [(2, 214)] [] M1 Q := by
      intro k M1 F a14 a15 a16 a17 hte
      have hlen : tk_len T s = k := by unfold tk_len; omega
      refine h_176_243 (lay F) ⟨fun _ => hQ M1 F ⟨a14, a15.trans hte.symm, a16.trans hk.symm, ?_⟩, fun h => absurd (by rw [a16]; decide) h⟩
      rw [a17]; unfold tk_w; rw [if_neg (by omega), if_pos hk, hlen]
    induction n with
    | zero =>
      intro k M1 hn hx ht F a14 a15 a16 a17 hd'
      have hte : tk_e T s = tk_b T s + (k : Int) := by rw [← ht, tk_to_end (by omega)]
      refine h_176_149 (lay F) ⟨fun h => absurd a16 h, fun _ => ⟨fun _ => stop k M1 F a14 a15 a16 a17 hte, fun h => ?_⟩⟩
      rw [kL F, a15] at h; omega
    | succ n ih =>
      intro k M1 hn hx ht F a14 a15 a16 a17 hd'
      refine h_176_149 (lay F) ⟨fun h => absurd a16 h, fun _ => ?_⟩
      rw [kL F, a15]
      refine ⟨fun h => stop k M1 F a14 a15 a16 a17 (by rw [← ht, tk_to_end (by omega)]), fun h => ⟨by omega, by omega, hd, ?_⟩⟩
      rw [kP F _ (by omega) (by omega)]
      refine rm_173 (lay F) (fun hy => ?_) (fun hn' => ?_)
      · refine h_176_180 (lay F) ⟨fun h => absurd h (by decide), fun _ => ?_⟩
        have hdg := of_decide_eq_true hy
        rw [a17, a15, a14, am_w_id (x := tk_b T s + (k : Int) + 1) (by omega) (by omega), am_w_id (x := tk_b T s + (k : Int) - tk_b T s) (by omega) (by omega)]
        have hx1 : tk_b T s + (k : Int) + 1 = tk_b T s + ((k + 1 : Nat) : Int) := by omega
        have nx : ∀ v, v = tk_wv T.1 (tk_b T s) (k + 1) → am_WP d am_c176 149 [(2, 214)] [] (am_st (am_st M1 214 17 v) 214 15 (tk_b T s + (k : Int) + 1)) Q := by
          intro v hv
          refine ih (k + 1) _ (by omega) (by omega) ?_ (st2 _ _ _ F) (by rw [g14]; exact a14) (by rw [g15]; exact hx1) (by rw [g16]; exact a16) (by rw [g17]; exact hv) ?_
          · rw [← ht, ← hx1]; exact (tk_to_go (p := fun i => tk_sm (T.1 i)) (by omega) hy).symm
          · intro i hi
            by_cases hik : i = k
            · rw [hik]; omega
            · exact hd' i (by omega)
        refine ⟨fun h2 => nx _ ?_, fun h2 => ⟨by omega, by omega, ?_⟩⟩
        · simp only [tk_wv]; rw [if_neg (by omega)]
        · have hb := tk_wv_m9 (n := k) (by omega) hd'
          rw [kP F _ (by omega) (by omega), am_wl_id (x := tk_wv T.1 (tk_b T s) k * 32) (by omega) (by omega), am_wl_id (x := tk_wv T.1 (tk_b T s) k * 32 + T.1 (tk_b T s + (k : Int))) (by omega) (by omega), am_wl_id (by omega) (by omega)]
          refine nx _ ?_
          simp only [tk_wv]; rw [if_pos (by omega)]
      · refine h_176_180 (lay F) ⟨fun _ => stop k M1 F a14 a15 a16 a17 ?_, fun h => absurd rfl h⟩
        rw [← ht, tk_to_no (p := fun i => tk_sm (T.1 i)) hn']
  have at117 : ∀ M1 : am_M, nm_Fr rm_sg M M1 → am_gt M1 214 14 = tk_b T s → am_gt M1 214 15 = tk_b T s → am_gt M1 214 16 = tk_k T s → am_gt M1 214 17 = 0 → am_WP d am_c176 117 [(2, 214)] [] M1 Q := by
    intro M1 F a14 a15 a16 a17
    rcases tk_kc T s with k0 | k1 | k2 | k3
    · refine h_176_117 (lay F) ⟨fun _ => ?_, fun h => absurd (by rw [a16, k0]; decide) h⟩
      refine h_176_149 (lay F) ⟨fun _ => ?_, fun h => absurd (by rw [a16, k0]; decide) h⟩
      refine h_176_243 (lay F) ⟨fun _ => hQ M1 F ⟨a14, ?_, a16, ?_⟩, fun h => absurd (by rw [a16, k0]; decide) h⟩
      · rw [a15]; unfold tk_e; rw [if_pos k0]
      · rw [a17]; unfold tk_w; rw [if_neg (by omega), if_neg (by omega), if_neg (by omega)]
    · refine h_176_117 (lay F) ⟨fun _ => ?_, fun h => absurd (by rw [a16, k1]; decide) h⟩
      refine lets k1 _ 0 M1 (Nat.le_refl _) (by omega) ?_ F a14 (by rw [a15]; simp) (by rw [a16, k1]) (by rw [a17]; rfl) (fun i hi => by omega)
      unfold tk_e; rw [if_neg (by omega), if_pos k1]; simp
    · refine h_176_117 (lay F) ⟨fun _ => ?_, fun h => absurd (by rw [a16, k2]; decide) h⟩
      refine h_176_149 (lay F) ⟨fun _ => ?_, fun h => absurd (by rw [a16, k2]; decide) h⟩
      refine digs k2 _ 0 M1 (Nat.le_refl _) (by omega) ?_ F a14 (by rw [a15]; simp) (by rw [a16, k2]) (by rw [a17]; rfl) (fun i hi => by omega)
      unfold tk_e; rw [if_neg (by omega), if_neg (by omega), if_pos k2]; simp
    · have hb := (tk_k3.mp k3).1
      refine h_176_117 (lay F) ⟨fun h => absurd (by rw [a16, k3]) h, fun _ => ?_⟩
      rw [a14, a15]
      refine ⟨by omega, by omega, ?_⟩
      rw [kP F _ (by omega) (by omega), am_w_id (by omega) (by omega)]
      have F' := st2 M1 (tk_b T s + 1) (T.1 (tk_b T s)) F
      refine h_176_149 (lay F') ⟨fun _ => ?_, fun h => absurd (by rw [g16, a16, k3]; decide) h⟩
      refine h_176_243 (lay F') ⟨fun _ => hQ _ F' ⟨by rw [g14]; exact a14, ?_, by rw [g16]; exact a16, ?_⟩, fun h => absurd (by rw [g16, a16, k3]; decide) h⟩
      · rw [g15]; unfold tk_e; rw [if_neg (by omega), if_neg (by omega), if_neg (by omega)]
      · rw [g17]; unfold tk_w; rw [if_pos k3]
  have at54 : ∀ M1 : am_M, nm_Fr rm_sg M M1 → am_gt M1 214 14 = tk_b T s → am_gt M1 214 15 = tk_b T s → am_WP d am_c176 54 [(2, 214)] [] M1 Q := by
    intro M1 F a14 a15
    have F2 := nm_Fst (v := 0) (i := 17) F z (by decide) (by decide)
    have c14 : am_gt (am_st M1 214 17 0) 214 14 = tk_b T s := by rw [nm_gt_st, if_neg (by decide)]; exact a14
    have c15 : am_gt (am_st M1 214 17 0) 214 15 = tk_b T s := by rw [nm_gt_st, if_neg (by decide)]; exact a15
    have c17 : am_gt (am_st M1 214 17 0) 214 17 = 0 := by rw [nm_gt_st, if_pos ⟨rfl, rfl⟩]
    have F3 : ∀ v, nm_Fr rm_sg M (am_st (am_st M1 214 17 0) 214 16 v) := fun v => nm_Fst F2 z (by decide) (by decide)
    have go : ∀ v, v = tk_k T s → am_WP d am_c176 117 [(2, 214)] [] (am_st (am_st M1 214 17 0) 214 16 v) Q := fun v hv => at117 _ (F3 v) (by rw [nm_gt_st, if_neg (by decide)]; exact c14) (by rw [nm_gt_st, if_neg (by decide)]; exact c15) (by rw [nm_gt_st, if_pos ⟨rfl, rfl⟩]; exact hv) (by rw [nm_gt_st, if_neg (by decide)]; exact c17)
    refine h_176_54 (lay F) (h_176_59 (lay F2) ?_)
    rw [c14, kL F2]
    refine ⟨fun h => ⟨by omega, by omega, hd, ?_⟩, fun h => go 0 (tk_k0.mpr (by omega)).symm⟩
    rw [kP F2 _ (by omega) (by omega)]
    refine rm_173 (lay F2) (fun hy => ?_) (fun hn => ?_)
    · exact h_176_87 (lay F2) ⟨fun h => absurd h (by decide), fun _ => go 1 (tk_k1.mpr ⟨by omega, hy⟩).symm⟩
    · refine h_176_87 (lay F2) ⟨fun _ => ?_, fun h => absurd rfl h⟩
      rw [c14, kP F2 _ (by omega) (by omega)]
      refine ⟨by omega, by omega, hd, rm_174 (lay F2) (fun hy => ?_) (fun hn2 => ?_)⟩
      · exact h_176_106 (lay F2) ⟨fun h => absurd h (by decide), fun _ => go 2 (tk_k2.mpr ⟨by omega, hy⟩).symm⟩
      · exact h_176_106 (lay F2) ⟨fun _ => go 3 (tk_k3.mpr ⟨by omega, hn, hn2⟩).symm, fun h => absurd rfl h⟩
  have sps : ∀ (n : Nat) (x : Int) (M1 : am_M), (T.2 - x).toNat ≤ n → s ≤ x → x ≤ T.2 → nm_Fr rm_sg M M1 → am_gt M1 214 14 = x → tk_to (fun i => tk_sp (T.1 i)) T.2 x = tk_b T s → am_WP d am_c176 8 [(2, 214)] [] M1 Q := by
    have gob : ∀ (x : Int) (M1 : am_M), nm_Fr rm_sg M M1 → am_gt M1 214 14 = x → x = tk_b T s → am_WP d am_c176 54 [(2, 214)] [] (am_st M1 214 15 x) Q := fun x M1 F a14 hx => at54 _ (nm_Fst F z (by decide) (by decide)) (by rw [nm_gt_st, if_neg (by decide)]; exact a14.trans hx) (by rw [nm_gt_st, if_pos ⟨rfl, rfl⟩]; exact hx)
    intro n
    induction n with
    | zero =>
      intro x M1 hn h2 h3 F a14 ht
      rw [tk_to_end (by omega)] at ht
      refine h_176_8 (lay F) ?_
      rw [kL F, a14]
      exact ⟨fun _ => gob x M1 F a14 ht, fun h => absurd (by omega) h⟩
    | succ n ih =>
      intro x M1 hn h2 h3 F a14 ht
      refine h_176_8 (lay F) ?_
      rw [kL F, a14]
      refine ⟨fun h => ?_, fun h => ⟨by omega, by omega, fun h4 => ?_, fun h4 => ?_⟩⟩
      · rw [tk_to_end (by omega)] at ht; exact gob x M1 F a14 ht
      · rw [kP F x (by omega) (by omega)] at h4
        rw [tk_to_no (decide_eq_false h4)] at ht; exact gob x M1 F a14 ht
      · rw [kP F x (by omega) (by omega)] at h4
        rw [am_w_id (by omega) (by omega)]
        refine ih (x + 1) _ (by omega) (by omega) (by omega) (nm_Fst F z (by decide) (by decide)) (by rw [nm_gt_st, if_pos ⟨rfl, rfl⟩]) ?_
        rw [← ht]; exact (tk_to_go (by omega) (decide_eq_true (by omega))).symm
  refine h_176_0 hL ?_
  rw [hs]
  exact sps _ s _ (Nat.le_refl _) (Int.le_refl _) h1 (nm_Fst (nm_Fg_refl _ M) z (by decide) (by decide)) (by rw [nm_gt_st, if_pos ⟨rfl, rfl⟩]) rfl
/-- a word of the tables, a sign -/
abbrev rm_wd (k : Nat) (w : Int) : Prop := (∀ c ∈ rd_tx k, 97 ≤ c ∧ c ≤ 122) ∧ rd_tx k ≠ [] ∧ (rd_tx k).length ≤ 10 ∧ tk_cd (rd_tx k).reverse = w
abbrev rm_sn (k : Nat) (c : Int) : Prop := rd_tx k = [c] ∧ tk_sm c = false ∧ tk_dg c = false
theorem rm_177 {d : Nat} {T : tk_T} {s w : Int} {M : am_M} {Q : List am_V → am_M → Prop} (k : Nat) (hw : rm_wd k w) (hL : nm_Lay M) (hS : rm_tk M T s) (h1 : s ≤ T.2) (hQ : Q [(0, if tk_x T s = rd_tx k then 1 else 0)] M) : am_CL d 177 [(2, 214), (1, w)] M Q := by
  have hi := tk_word (T := T) (s := s) h1 hw.1 hw.2.1 hw.2.2.1 hw.2.2.2
  refine h_177_0 hL ?_
  rw [hS.2.2.1, hS.2.2.2, nm_lc0]
  refine ⟨fun h => ?_, fun h => ⟨fun h2 => ?_, fun h2 => ?_⟩⟩
  · rw [if_neg (fun e => by have := (hi.mpr e).1; omega)] at hQ; exact hQ
  · rw [if_neg (fun e => by have := (hi.mpr e).2; omega)] at hQ; exact hQ
  · rw [if_pos (hi.mp ⟨by omega, by omega⟩)] at hQ; exact hQ
theorem rm_178 {d : Nat} {T : tk_T} {s c : Int} {M : am_M} {Q : List am_V → am_M → Prop} (k : Nat) (hw : rm_sn k c) (hL : nm_Lay M) (hS : rm_tk M T s) (h1 : s ≤ T.2) (hQ : Q [(0, if tk_x T s = rd_tx k then 1 else 0)] M) : am_CL d 178 [(2, 214), (0, c)] M Q := by
  have hi := tk_sign (T := T) (s := s) h1 hw.2.1 hw.2.2
  rw [hw.1] at hQ
  refine h_178_0 hL ?_
  rw [hS.2.2.1, hS.2.2.2, nm_lc0]
  refine ⟨fun h => ?_, fun h => ⟨fun h2 => ?_, fun h2 => ?_⟩⟩
  · rw [if_neg (fun e => by have := (hi.mpr e).1; omega)] at hQ; exact hQ
  · rw [if_neg (fun e => by have := (hi.mpr e).2; omega)] at hQ; exact hQ
  · rw [if_pos (hi.mp ⟨by omega, by omega⟩)] at hQ; exact hQ
theorem rm_179y {d : Nat} {T : tk_T} {s v : Int} {M : am_M} {Q : List am_V → am_M → Prop} (hv : v ≠ 0) (hd : 2 ≤ d) (hL : nm_Lay M) (hT : tk_ok T) (hP : rm_tp M T) (hS : rm_tk M T s) (h0 : 0 ≤ s) (h1 : s ≤ T.2) (hb : am_gt M 214 19 = 0) (hQ : ∀ M', nm_Fr rm_sg M M' → rm_tk M' T (tk_e T s) → Q [] M') : am_CL d 179 [(2, 214), (0, v)] M Q := by
  have he := tk_se h1
  refine h_179_0 hL ⟨fun h => absurd hb h, fun _ => ⟨fun _ => ⟨fun h => absurd hb h, fun _ => ⟨by omega, rm_176 (by omega) hL hT hP hS.2.1 (by omega) he.2 (fun M' F hk => ?_)⟩⟩, fun h => absurd hv h⟩⟩
  exact h_179_35 (nm_Lay_fr hL F (by decide +kernel)) (hQ M' F hk)
theorem rm_179n {d : Nat} {T : tk_T} {s : Int} {M : am_M} {Q : List am_V → am_M → Prop} (hL : nm_Lay M) (hS : rm_tk M T s) (hb : am_gt M 214 19 = 0) (hQ : Q [] (am_st (am_st M 214 19 1) 214 18 (tk_b T s))) : am_CL d 179 [(2, 214), (0, 0)] M Q := by
  refine h_179_0 hL ⟨fun h => absurd hb h, fun _ => ⟨fun h => absurd rfl h, fun _ => ⟨fun _ => ?_, fun h => absurd (by decide) h⟩⟩⟩
  rw [hS.1]
  exact h_179_35 (nm_Lay_st (nm_Lay_st hL (by decide +kernel)) (by decide +kernel)) hQ
theorem rm_180y {d : Nat} {T : tk_T} {s lo hi : Int} {M : am_M} {Q : List am_V → am_M → Prop} (hn : tk_n T s lo hi) (hd : 3 ≤ d) (hL : nm_Lay M) (hT : tk_ok T) (hP : rm_tp M T) (hS : rm_tk M T s) (h0 : 0 ≤ s) (h1 : s ≤ T.2) (hb : am_gt M 214 19 = 0) (hQ : ∀ M', nm_Fr rm_sg M M' → rm_tk M' T (tk_e T s) → Q [(0, tk_w T s)] M') : am_CL d 180 [(2, 214), (1, lo), (1, hi)] M Q := by
  have hw := tk_w2 h1 hn.1
  refine h_180_0 hL ?_
  rw [hS.2.2.1, hS.2.2.2, am_w_id (by omega) (by omega)]
  refine ⟨fun h => absurd hn.1 h, fun _ => ⟨by omega, nm_m142 hL ?_⟩⟩
  rw [if_pos hn.2]
  refine h_180_25 hL ⟨fun h => absurd h (by decide), fun _ => ⟨by omega, rm_179y (by decide) (by omega) hL hT hP hS h0 h1 hb (fun M' F hk => ?_)⟩⟩
  exact h_180_36 (nm_Lay_fr hL F (by decide +kernel)) (hQ M' F hk)
theorem rm_180n {d : Nat} {T : tk_T} {s lo hi : Int} {M : am_M} {Q : List am_V → am_M → Prop} (hn : ¬ tk_n T s lo hi) (hd : 3 ≤ d) (hL : nm_Lay M) (hS : rm_tk M T s) (hb : am_gt M 214 19 = 0) (hQ : ∀ v, Q [(0, v)] (am_st (am_st M 214 19 1) 214 18 (tk_b T s))) : am_CL d 180 [(2, 214), (1, lo), (1, hi)] M Q := by
  have hL2 : nm_Lay (am_st (am_st M 214 19 1) 214 18 (tk_b T s)) := nm_Lay_st (nm_Lay_st hL (by decide +kernel)) (by decide +kernel)
  refine h_180_0 hL ⟨fun h => ⟨by omega, rm_179n hL hS hb (h_180_36 hL2 (hQ _))⟩, fun h => ⟨by omega, nm_m142 hL ?_⟩⟩
  rw [hS.2.2.1] at h
  rw [hS.2.2.2, if_neg (fun q => hn ⟨by omega, q.1, q.2⟩)]
  exact h_180_25 hL ⟨fun _ => ⟨by omega, rm_179n hL hS hb (h_180_36 hL2 (hQ _))⟩, fun h => absurd rfl h⟩
/-- which of a row of texts it is -/
def rd_at (ks : List Nat) (x : List Int) : Nat → Int
  | 0 => -1
  | j + 1 => if x = rd_tx (ks.getD j 0) then (j : Int) + 1 else rd_at ks x j
abbrev rd_ks0 : List Nat := [10, 11, 12, 13, 14, 15, 16, 17]
abbrev rd_ks1 : List Nat := [16, 18, 19, 20, 15, 21]
abbrev rd_ks2 : List Nat := [0, 1, 2, 3]
abbrev rd_ks3 : List Nat := [4, 5, 6, 7]
theorem rm_tb229 {M : am_M} (hL : nm_Lay M) (j : Nat) (hj : j < 8) : rm_wd (rd_ks0.getD j 0) (am_gt M 229 (j : Int)) := by
  have : j = 0 ∨ j = 1 ∨ j = 2 ∨ j = 3 ∨ j = 4 ∨ j = 5 ∨ j = 6 ∨ j = 7 := by omega
  rcases this with rfl | rfl | rfl | rfl | rfl | rfl | rfl | rfl
  · have e : am_gt M 229 ((0 : Nat) : Int) = 446253554 := nm_r229_0 hL
    rw [e]; decide +kernel
  · have e : am_gt M 229 ((1 : Nat) : Int) = 17171557 := nm_r229_1 hL
    rw [e]; decide +kernel
  · have e : am_gt M 229 ((2 : Nat) : Int) = 278194 := nm_r229_2 hL
    rw [e]; decide +kernel
  · have e : am_gt M 229 ((3 : Nat) : Int) = 525908 := nm_r229_3 hL
    rw [e]; decide +kernel
  · have e : am_gt M 229 ((4 : Nat) : Int) = 71108 := nm_r229_4 hL
    rw [e]; decide +kernel
  · have e : am_gt M 229 ((5 : Nat) : Int) = 647387314 := nm_r229_5 hL
    rw [e]; decide +kernel
  · have e : am_gt M 229 ((6 : Nat) : Int) = 14982420 := nm_r229_6 hL
    rw [e]; decide +kernel
  · have e : am_gt M 229 ((7 : Nat) : Int) = 441828 := nm_r229_7 hL
    rw [e]; decide +kernel
theorem rm_tb230 {M : am_M} (hL : nm_Lay M) (j : Nat) (hj : j < 6) : rm_wd (rd_ks1.getD j 0) (am_gt M 230 (j : Int)) := by
  have : j = 0 ∨ j = 1 ∨ j = 2 ∨ j = 3 ∨ j = 4 ∨ j = 5 := by omega
  rcases this with rfl | rfl | rfl | rfl | rfl | rfl
  · have e : am_gt M 230 ((0 : Nat) : Int) = 14982420 := nm_r230_0 hL
    rw [e]; decide +kernel
  · have e : am_gt M 230 ((1 : Nat) : Int) = 146885 := nm_r230_1 hL
    rw [e]; decide +kernel
  · have e : am_gt M 230 ((2 : Nat) : Int) = 404362868 := nm_r230_2 hL
    rw [e]; decide +kernel
  · have e : am_gt M 230 ((3 : Nat) : Int) = 284103 := nm_r230_3 hL
    rw [e]; decide +kernel
  · have e : am_gt M 230 ((4 : Nat) : Int) = 647387314 := nm_r230_4 hL
    rw [e]; decide +kernel
  · have e : am_gt M 230 ((5 : Nat) : Int) = 20593771 := nm_r230_5 hL
    rw [e]; decide +kernel
theorem rm_tb231 {M : am_M} (hL : nm_Lay M) (j : Nat) (hj : j < 4) : rm_wd (rd_ks2.getD j 0) (am_gt M 231 (j : Int)) := by
  have : j = 0 ∨ j = 1 ∨ j = 2 ∨ j = 3 := by omega
  rcases this with rfl | rfl | rfl | rfl
  · have e : am_gt M 231 ((0 : Nat) : Int) = 13675699 := nm_r231_0 hL
    rw [e]; decide +kernel
  · have e : am_gt M 231 ((1 : Nat) : Int) = 24282707 := nm_r231_1 hL
    rw [e]; decide +kernel
  · have e : am_gt M 231 ((2 : Nat) : Int) = 526131 := nm_r231_2 hL
    rw [e]; decide +kernel
  · have e : am_gt M 231 ((3 : Nat) : Int) = 67155 := nm_r231_3 hL
    rw [e]; decide +kernel
theorem rm_tb244 {M : am_M} (hL : nm_Lay M) (j : Nat) (hj : j < 4) : rm_wd (rd_ks3.getD j 0) (am_gt M 244 (j : Int)) := by
  have : j = 0 ∨ j = 1 ∨ j = 2 ∨ j = 3 := by omega
  rcases this with rfl | rfl | rfl | rfl
  · have e : am_gt M 244 ((0 : Nat) : Int) = 263623 := nm_r244_0 hL
    rw [e]; decide +kernel
  · have e : am_gt M 244 ((1 : Nat) : Int) = 147182 := nm_r244_1 hL
    rw [e]; decide +kernel
  · have e : am_gt M 244 ((2 : Nat) : Int) = 553002600 := nm_r244_2 hL
    rw [e]; decide +kernel
  · have e : am_gt M 244 ((3 : Nat) : Int) = 525939 := nm_r244_3 hL
    rw [e]; decide +kernel
theorem rm_188 {d : Nat} {T : tk_T} {s : Int} {M : am_M} {Q : List am_V → am_M → Prop} (hd : 1 ≤ d) (hL : nm_Lay M) (hS : rm_tk M T s) (h1 : s ≤ T.2) (hQ : Q [(0, rd_at rd_ks0 (tk_x T s) 8)] M) : am_CL d 188 [(2, 214)] M Q := by
  have loop : ∀ (n j : Nat), 8 - j ≤ n → j ≤ 8 → am_WP d am_c188 4 [(2, 214), (0, rd_at rd_ks0 (tk_x T s) j), (0, (j : Int))] [] M Q := by
    intro n
    induction n with
    | zero =>
      intro j hn hj
      have : j = 8 := by omega
      subst this
      exact h_188_4 hL ⟨fun _ => hQ, fun h => absurd (by decide) h⟩
    | succ n ih =>
      intro j hn hj
      refine h_188_4 hL ⟨fun h => ?_, fun h => ⟨by omega, by omega, hd, rm_177 (rd_ks0.getD j 0) (rm_tb229 hL j (by omega)) hL hS h1 ?_⟩⟩
      · have : j = 8 := by omega
        subst this; exact hQ
      · have nx := ih (j + 1) (by omega) (by omega)
        have w1 : am_w ((j : Int) + 1) = ((j + 1 : Nat) : Int) := by rw [am_w_id (by omega) (by omega)]; omega
        refine h_188_20 hL ?_
        rw [w1]
        simp only [rd_at] at nx
        by_cases e : tk_x T s = rd_tx (rd_ks0.getD j 0)
        · rw [if_pos e] at nx ⊢
          exact ⟨fun h => absurd h (by decide), fun _ => by rw [show (((j + 1 : Nat) : Int)) = (j : Int) + 1 by omega] at nx ⊢; exact nx⟩
        · rw [if_neg e] at nx ⊢
          exact ⟨fun _ => nx, fun h => absurd rfl h⟩
  exact h_188_0 hL (loop _ 0 (Nat.le_refl _) (Nat.zero_le _))
theorem rm_189 {d : Nat} {T : tk_T} {s : Int} {M : am_M} {Q : List am_V → am_M → Prop} (hd : 1 ≤ d) (hL : nm_Lay M) (hS : rm_tk M T s) (h1 : s ≤ T.2) (hQ : Q [(0, rd_at rd_ks1 (tk_x T s) 6)] M) : am_CL d 189 [(2, 214)] M Q := by
  have loop : ∀ (n j : Nat), 6 - j ≤ n → j ≤ 6 → am_WP d am_c189 4 [(2, 214), (0, rd_at rd_ks1 (tk_x T s) j), (0, (j : Int))] [] M Q := by
    intro n
    induction n with
    | zero =>
      intro j hn hj
      have : j = 6 := by omega
      subst this
      exact h_189_4 hL ⟨fun _ => hQ, fun h => absurd (by decide) h⟩
    | succ n ih =>
      intro j hn hj
      refine h_189_4 hL ⟨fun h => ?_, fun h => ⟨by omega, by omega, hd, rm_177 (rd_ks1.getD j 0) (rm_tb230 hL j (by omega)) hL hS h1 ?_⟩⟩
      · have : j = 6 := by omega
        subst this; exact hQ
      · have nx := ih (j + 1) (by omega) (by omega)
        have w1 : am_w ((j : Int) + 1) = ((j + 1 : Nat) : Int) := by rw [am_w_id (by omega) (by omega)]; omega
        refine h_189_20 hL ?_
        rw [w1]
        simp only [rd_at] at nx
        by_cases e : tk_x T s = rd_tx (rd_ks1.getD j 0)
        · rw [if_pos e] at nx ⊢
          exact ⟨fun h => absurd h (by decide), fun _ => by rw [show (((j + 1 : Nat) : Int)) = (j : Int) + 1 by omega] at nx ⊢; exact nx⟩
        · rw [if_neg e] at nx ⊢
          exact ⟨fun _ => nx, fun h => absurd rfl h⟩
  exact h_189_0 hL (loop _ 0 (Nat.le_refl _) (Nat.zero_le _))
theorem rd_at_lw (x : List Int) : (rd_lw x = -1 ∧ rd_at rd_ks0 x 8 = -1) ∨ (rd_lw x = 0 ∧ rd_at rd_ks0 x 8 = 1) ∨ (rd_lw x = 1 ∧ rd_at rd_ks0 x 8 = 2) ∨ (rd_lw x = 2 ∧ rd_at rd_ks0 x 8 = 3) ∨ (rd_lw x = 3 ∧ rd_at rd_ks0 x 8 = 4) ∨ (rd_lw x = 4 ∧ rd_at rd_ks0 x 8 = 5) ∨ (rd_lw x = 5 ∧ rd_at rd_ks0 x 8 = 6) ∨ (rd_lw x = 6 ∧ rd_at rd_ks0 x 8 = 7) ∨ (rd_lw x = 7 ∧ rd_at rd_ks0 x 8 = 8) := by
  by_cases e0 : x = rd_tx 10
  · subst e0; decide +kernel
  by_cases e1 : x = rd_tx 11
  · subst e1; decide +kernel
  by_cases e2 : x = rd_tx 12
  · subst e2; decide +kernel
  by_cases e3 : x = rd_tx 13
  · subst e3; decide +kernel
  by_cases e4 : x = rd_tx 14
  · subst e4; decide +kernel
  by_cases e5 : x = rd_tx 15
  · subst e5; decide +kernel
  by_cases e6 : x = rd_tx 16
  · subst e6; decide +kernel
  by_cases e7 : x = rd_tx 17
  · subst e7; decide +kernel
  refine .inl ⟨?_, ?_⟩
  · unfold rd_lw; simp only [e0, e1, e2, e3, e4, e5, e6, e7, if_false]
  · simp only [rd_at, List.getD_cons_zero, List.getD_cons_succ, e0, e1, e2, e3, e4, e5, e6, e7, if_false]
theorem rd_at_ow (x : List Int) : (rd_ow x = -1 ∧ rd_at rd_ks1 x 6 = -1) ∨ (rd_ow x = 0 ∧ rd_at rd_ks1 x 6 = 1) ∨ (rd_ow x = 1 ∧ rd_at rd_ks1 x 6 = 2) ∨ (rd_ow x = 2 ∧ rd_at rd_ks1 x 6 = 3) ∨ (rd_ow x = 3 ∧ rd_at rd_ks1 x 6 = 4) ∨ (rd_ow x = 4 ∧ rd_at rd_ks1 x 6 = 5) ∨ (rd_ow x = 10 ∧ rd_at rd_ks1 x 6 = 6) := by
  by_cases e0 : x = rd_tx 16
  · subst e0; decide +kernel
  by_cases e1 : x = rd_tx 18
  · subst e1; decide +kernel
  by_cases e2 : x = rd_tx 19
  · subst e2; decide +kernel
  by_cases e3 : x = rd_tx 20
  · subst e3; decide +kernel
  by_cases e4 : x = rd_tx 15
  · subst e4; decide +kernel
  by_cases e5 : x = rd_tx 21
  · subst e5; decide +kernel
  refine .inl ⟨?_, ?_⟩
  · unfold rd_ow; simp only [e0, e1, e2, e3, e4, e5, if_false]
  · simp only [rd_at, List.getD_cons_zero, List.getD_cons_succ, e0, e1, e2, e3, e4, e5, if_false]
theorem rd_at_lk (x : List Int) : (rd_lk x = -1 ∧ rd_at rd_ks2 x 4 = -1) ∨ (rd_lk x = 0 ∧ rd_at rd_ks2 x 4 = 1) ∨ (rd_lk x = 1 ∧ rd_at rd_ks2 x 4 = 2) ∨ (rd_lk x = 2 ∧ rd_at rd_ks2 x 4 = 3) ∨ (rd_lk x = 3 ∧ rd_at rd_ks2 x 4 = 4) := by
  by_cases e0 : x = rd_tx 0
  · subst e0; decide +kernel
  by_cases e1 : x = rd_tx 1
  · subst e1; decide +kernel
  by_cases e2 : x = rd_tx 2
  · subst e2; decide +kernel
  by_cases e3 : x = rd_tx 3
  · subst e3; decide +kernel
  refine .inl ⟨?_, ?_⟩
  · unfold rd_lk; simp only [e0, e1, e2, e3, if_false]
  · simp only [rd_at, List.getD_cons_zero, List.getD_cons_succ, e0, e1, e2, e3, if_false]
theorem rd_at_ok (x : List Int) : (rd_okk x = -1 ∧ rd_at rd_ks3 x 4 = -1) ∨ (rd_okk x = 0 ∧ rd_at rd_ks3 x 4 = 1) ∨ (rd_okk x = 1 ∧ rd_at rd_ks3 x 4 = 2) ∨ (rd_okk x = 2 ∧ rd_at rd_ks3 x 4 = 3) ∨ (rd_okk x = 3 ∧ rd_at rd_ks3 x 4 = 4) := by
  by_cases e0 : x = rd_tx 4
  · subst e0; decide +kernel
  by_cases e1 : x = rd_tx 5
  · subst e1; decide +kernel
  by_cases e2 : x = rd_tx 6
  · subst e2; decide +kernel
  by_cases e3 : x = rd_tx 7
  · subst e3; decide +kernel
  refine .inl ⟨?_, ?_⟩
  · unfold rd_okk; simp only [e0, e1, e2, e3, if_false]
  · simp only [rd_at, List.getD_cons_zero, List.getD_cons_succ, e0, e1, e2, e3, if_false]
