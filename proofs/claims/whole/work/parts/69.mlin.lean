/-! LINES, the reference's search -/
/-- a line is kept backwards: the last mirror first -/
def nm_at : List Int → Int → Int
  | [], _ => 0
  | m :: T, q => if q = (T.length : Int) then m else nm_at T q
theorem nm_at_in {T : List Int} : ∀ {q : Int}, 0 ≤ q → q < (T.length : Int) → nm_at T q ∈ T := by
  induction T with
  | nil => intro q a b; simp at b; omega
  | cons m T ih =>
    intro q a b
    rw [List.length_cons] at b
    show (if q = (T.length : Int) then m else nm_at T q) ∈ m :: T
    by_cases h : q = (T.length : Int)
    · rw [if_pos h]; exact List.mem_cons_self
    · rw [if_neg h]; exact List.mem_cons_of_mem _ (ih a (by omega))
theorem nm_at_ne {m : Int} : ∀ {T : List Int}, (∀ q : Nat, q < T.length → nm_at T (q : Int) ≠ m) ↔ m ∉ T := by
  intro T
  induction T with
  | nil => exact ⟨fun _ => by simp, fun _ q h => absurd h (Nat.not_lt_zero _)⟩
  | cons a T ih =>
    rw [List.mem_cons, not_or, ← ih]
    constructor
    · intro h
      refine ⟨fun e => ?_, fun q hq => ?_⟩
      · have := h T.length (by simp)
        rw [show nm_at (a :: T) ((T.length : Nat) : Int) = a from if_pos rfl] at this
        exact this e.symm
      · have := h q (by simp; omega)
        rw [show nm_at (a :: T) (q : Int) = nm_at T (q : Int) from if_neg (by omega)] at this
        exact this
    · rintro ⟨h1, h2⟩ q hq
      rw [List.length_cons] at hq
      by_cases e : q = T.length
      · subst e
        rw [show nm_at (a :: T) ((T.length : Nat) : Int) = a from if_pos rfl]
        exact fun c => h1 c.symm
      · rw [show nm_at (a :: T) (q : Int) = nm_at T (q : Int) from if_neg (by omega)]
        exact h2 q (by omega)
def nm_okm (cn : Int → Int → Bool) (T : List Int) (m : Int) : Bool := cn m (T.length : Int) && decide (m ∉ T)
theorem nm_okm_iff {cn : Int → Int → Bool} {T : List Int} {m : Int} : nm_okm cn T m = true ↔ (cn m (T.length : Int) = true ∧ ∀ q : Nat, q < T.length → nm_at T (q : Int) ≠ m) := by
  unfold nm_okm
  rw [Bool.and_eq_true, decide_eq_true_iff, nm_at_ne]
/-- the last k of N that may come next, each with what follows it -/
def nm_chl (ok : Int → Bool) (g : Int → List (List Int)) (N : Int) : Nat → List (List Int)
  | 0 => []
  | k + 1 => (if ok (N - 1 - (k : Int)) then g (N - 1 - (k : Int)) else []) ++ nm_chl ok g N k
/-- all lines that lengthen T by r -/
def nm_gen (cn : Int → Int → Bool) (N : Int) : Nat → List Int → List (List Int)
  | 0, T => [T]
  | r + 1, T => nm_chl (nm_okm cn T) (fun m => nm_gen cn N r (m :: T)) N N.toNat
/-- the lines after T among those of length n -/
def nm_rst (cn : Int → Int → Bool) (N : Int) (n : Nat) : List Int → List (List Int)
  | [] => []
  | u :: T => nm_chl (nm_okm cn T) (fun m => nm_gen cn N (n - 1 - T.length) (m :: T)) N (N - 1 - u).toNat ++ nm_rst cn N n T
def nm_inN (N : Int) (T : List Int) : Prop := ∀ m ∈ T, 0 ≤ m ∧ m < N
/-- the tables of the reference -/
def nm_T238 (M : am_M) (N : Int) (cn : Int → Int → Bool) : Prop := ∀ m p, 0 ≤ m → m < N → 0 ≤ p → p < 6 → am_gt M 238 (6 * m + p) = if cn m p then 1 else 0
def nm_T237 (M : am_M) (N : Int) (mk : Int → Int → Int → Int) : Prop := ∀ m p h, 0 ≤ m → m < N → 0 ≤ p → p < 6 → 1 ≤ h → h ≤ 8 → am_gt M 237 (48 * m + 8 * p + h - 1) = if p < h then mk m p h else -1
def nm_MTn (M : am_M) (T : List Int) : Prop := ∀ q, 0 ≤ q → q < (T.length : Int) → am_gt M 239 q = nm_at T q
theorem nm_MTn_cons {M : am_M} {m : Int} {T : List Int} : nm_MTn M (m :: T) ↔ (nm_MTn M T ∧ am_gt M 239 (T.length : Int) = m) := by
  constructor
  · intro h
    refine ⟨fun q a b => ?_, ?_⟩
    · rw [h q a (by rw [List.length_cons]; omega)]; exact if_neg (by omega)
    · rw [h _ (by omega) (by rw [List.length_cons]; omega)]; exact if_pos rfl
  · rintro ⟨h1, h2⟩ q a b
    rw [List.length_cons] at b
    by_cases e : q = (T.length : Int)
    · rw [e, h2]; exact (if_pos rfl).symm
    · rw [h1 q a (by omega)]; exact (if_neg e).symm
theorem nm_MTn_st {M : am_M} {T : List Int} {i v : Int} (h : nm_MTn M T) (hi : (T.length : Int) ≤ i) : nm_MTn (am_st M 239 i v) T := by
  intro q a b
  rw [nm_st_nj (by omega)]; exact h q a b
theorem nmm_229 {d : Nat} {N m : Int} {cn : Int → Int → Bool} {T : List Int} {M : am_M} {Q : List am_V → am_M → Prop} (hL : nm_Lay M) (ht : nm_T238 M N cn) (hT : nm_MTn M T) (hl : T.length < 6) (m0 : 0 ≤ m) (m1 : m < N) (N6 : N ≤ 6) (hm : am_gt M 239 (T.length : Int) = m) (h1 : nm_okm cn T m = true → Q [(0, 1)] M) (h0 : nm_okm cn T m = false → Q [(0, 0)] M) : am_CL d 229 [(2, 214), (0, (T.length : Int))] M Q := by
  refine h_229_0 hL ?_
  rw [hm, am_w_id (x := 6 * m) (by omega) (by omega), am_w_id (x := 6 * m + (T.length : Int)) (by omega) (by omega), ht m (T.length : Int) m0 m1 (by omega) (by omega)]
  refine ⟨by omega, by omega, by omega, by omega, ?_⟩
  have key : ∀ k : Nat, k ≤ T.length → ∀ b : Int, (b = 0 ∨ b = 1) → (b = 1 ↔ (cn m (T.length : Int) = true ∧ ∀ q : Nat, q < k → nm_at T (q : Int) ≠ m)) → am_WP d am_c229 19 [(2, 214), (0, (T.length : Int)), (0, b), (0, (k : Int))] [] M Q := by
    refine nm_dn ?_
    intro k hk ih b hb hi
    have nx : ∀ b' : Int, (b' = 0 ∨ b' = 1) → (b' = 1 ↔ (cn m (T.length : Int) = true ∧ ∀ q : Nat, q < k + 1 → nm_at T (q : Int) ≠ m)) → k < T.length → am_WP d am_c229 19 [(2, 214), (0, (T.length : Int)), (0, b'), (0, am_w ((k : Int) + 1))] [] M Q := by
      intro b' hb' hi' hlt
      have := ih hlt b' hb' hi'
      rw [show ((k + 1 : Nat) : Int) = (k : Int) + 1 by omega] at this
      rw [am_w_id (by omega) (by omega)]; exact this
    refine h_229_19 hL ⟨fun h => ⟨hb, ?_⟩, fun h => ⟨fun e => ?_, fun e => ?_⟩⟩
    · have hkk : k = T.length := by omega
      rw [hkk, ← nm_okm_iff] at hi
      rcases hb with e | e
      · subst e
        refine h0 ?_
        cases hc : nm_okm cn T m
        · rfl
        · exact absurd (hi.2 hc) (by decide)
      · subst e; exact h1 (hi.1 rfl)
    · refine nx 0 (.inl rfl) ⟨fun c => absurd c (by decide), fun c => ?_⟩ (by omega)
      have := hi.2 ⟨c.1, fun q hq => c.2 q (by omega)⟩
      omega
    · have e1 : b = 1 := by omega
      subst e1
      obtain ⟨c1, c2⟩ := hi.1 rfl
      rw [hT (k : Int) (by omega) (by omega), hm]
      refine ⟨by omega, by omega, by omega, by omega, fun g => ?_, fun g => ?_⟩
      · exact nx 0 (.inl rfl) ⟨fun c => absurd c (by decide), fun c => absurd g (c.2 k (by omega))⟩ (by omega)
      · refine nx 1 (.inr rfl) ⟨fun _ => ⟨c1, fun q hq => ?_⟩, fun _ => rfl⟩ (by omega)
        by_cases eq : q = k
        · subst eq; exact g
        · exact c2 q (by omega)
  have := key 0 (Nat.zero_le _) (if cn m (T.length : Int) then 1 else 0) (by split <;> omega) (by
    cases cn m (T.length : Int)
    · exact ⟨fun c => absurd c (by decide), fun c => absurd c.1 (by decide)⟩
    · exact ⟨fun _ => ⟨rfl, fun q hq => absurd hq (Nat.not_lt_zero _)⟩, fun _ => rfl⟩)
  exact this
abbrev nm_nl : nm_Rg := [(239, 0, 7)]
abbrev nm_at230 (d : Nat) (n x2 x3 : Int) (M : am_M) (Q : List am_V → am_M → Prop) : Prop := am_WP d am_c230 17 [(2, 214), (0, n), (0, x2), (0, x3)] [] M Q
theorem nm_230B {d n : Nat} {N x2 : Int} {cn : Int → Int → Bool} {M : am_M} {Q : List am_V → am_M → Prop} (hd : 1 ≤ d) (hL : nm_Lay M) (hN : am_gt M 216 0 = N) (N0 : 0 ≤ N) (N6 : N ≤ 6) (ht : nm_T238 M N cn) (n6 : n ≤ 6) (T : List Int) (g : Int → List (List Int)) (hl : T.length < n) (hi : nm_inN N T)
  (D : ∀ m M1, 0 ≤ m → m < N → nm_okm cn T m = true → nm_Fr nm_nl M M1 → nm_MTn M1 (m :: T) → am_gt M1 239 ((T.length : Int) + 1) = -1 → (g m = [] → ∀ M2, nm_Fr nm_nl M M2 → nm_MTn M2 (m :: T) → nm_at230 d n x2 (T.length : Int) M2 Q) → (∀ T' rest M2, g m = T' :: rest → nm_rst cn N n T' = rest ++ nm_rst cn N n (m :: T) → T'.length = n → nm_inN N T' → nm_Fr nm_nl M M2 → nm_MTn M2 T' → nm_at230 d n x2 n M2 Q) → nm_at230 d n x2 ((T.length : Int) + 1) M1 Q)
  (hg : g = fun m => nm_gen cn N (n - 1 - T.length) (m :: T)) :
  ∀ k : Nat, (k : Int) ≤ N → ∀ M1, nm_Fr nm_nl M M1 → nm_MTn M1 T → am_gt M1 239 (T.length : Int) = N - 1 - (k : Int) →
  (nm_chl (nm_okm cn T) g N k = [] → ∀ M2, nm_Fr nm_nl M M2 → nm_MTn M2 T → nm_at230 d n x2 ((T.length : Int) - 1) M2 Q) →
  (∀ T' rest M2, nm_chl (nm_okm cn T) g N k = T' :: rest → nm_rst cn N n T' = rest ++ nm_rst cn N n T → T'.length = n → nm_inN N T' → nm_Fr nm_nl M M2 → nm_MTn M2 T' → nm_at230 d n x2 n M2 Q) → nm_at230 d n x2 (T.length : Int) M1 Q := by
  intro k
  induction k with
  | zero =>
    intro hk M1 F1 hT hv K F
    have hL1 := nm_Lay_fr hL F1 (by decide +kernel)
    have hN1 : am_gt M1 216 0 = N := (nm_gt_frn F1 hL (by decide) (by decide)).trans hN
    refine h_230_17 hL1 ⟨fun h => absurd h (by omega), fun _ => ⟨fun h => absurd h (by omega), fun _ => ⟨by omega, by omega, ?_⟩⟩⟩
    rw [hv, hN1, am_w_id (x := N - 1 - ((0 : Nat) : Int) + 1) (by omega) (by omega), am_w_id (x := (T.length : Int) + -1) (by omega) (by omega)]
    refine ⟨fun h => absurd h (by omega), fun _ => ?_⟩
    exact K rfl _ (nm_Fr_st F1 (nm_in_c (a := 239) (lo := 0) (hi := 7) (by decide) (by omega) (by omega))) (nm_MTn_st hT (Int.le_refl _))
  | succ k ih =>
    intro hk M1 F1 hT hv K F
    have hL1 := nm_Lay_fr hL F1 (by decide +kernel)
    have hN1 : am_gt M1 216 0 = N := (nm_gt_frn F1 hL (by decide) (by decide)).trans hN
    refine h_230_17 hL1 ⟨fun h => absurd h (by omega), fun _ => ⟨fun h => absurd h (by omega), fun _ => ⟨by omega, by omega, ?_⟩⟩⟩
    rw [hv, hN1, am_w_id (x := N - 1 - ((k + 1 : Nat) : Int) + 1) (by omega) (by omega), show N - 1 - ((k + 1 : Nat) : Int) + 1 = N - 1 - (k : Int) by omega]
    refine ⟨fun _ => ⟨by omega, ?_⟩, fun h => absurd h (by omega)⟩
    have F2 : nm_Fr nm_nl M (am_st M1 239 (T.length : Int) (N - 1 - (k : Int))) := nm_Fr_st F1 (nm_in_c (a := 239) (lo := 0) (hi := 7) (by decide) (by omega) (by omega))
    have hT2 : nm_MTn (am_st M1 239 (T.length : Int) (N - 1 - (k : Int))) T := nm_MTn_st hT (Int.le_refl _)
    have hv2 : am_gt (am_st M1 239 (T.length : Int) (N - 1 - (k : Int))) 239 (T.length : Int) = N - 1 - (k : Int) := nm_st_eq
    generalize am_st M1 239 (T.length : Int) (N - 1 - (k : Int)) = M2 at F2 hT2 hv2 ⊢
    have hL2 := nm_Lay_fr hL F2 (by decide +kernel)
    have e : nm_chl (nm_okm cn T) g N (k + 1) = (if nm_okm cn T (N - 1 - (k : Int)) then g (N - 1 - (k : Int)) else []) ++ nm_chl (nm_okm cn T) g N k := rfl
    rw [e] at K F
    refine nmm_229 (N := N) (cn := cn) hL2 (fun m p a b c f => (nm_gt_frn F2 hL (by decide) (by decide)).trans (ht m p a b c f)) hT2 (by omega) (by omega) (by omega) N6 hv2 (fun ho => ?_) (fun ho => ?_)
    · rw [if_pos ho] at K F
      refine h_230_62 hL2 ⟨fun c => absurd c (by decide), fun _ => ?_⟩
      rw [am_w_id (x := (T.length : Int) + 1) (by omega) (by omega)]
      refine ⟨by omega, by omega, ?_⟩
      have hr : nm_rst cn N n ((N - 1 - (k : Int)) :: T) = nm_chl (nm_okm cn T) g N k ++ nm_rst cn N n T := by
        rw [hg]
        show nm_chl _ _ N (N - 1 - (N - 1 - (k : Int))).toNat ++ _ = _
        rw [show (N - 1 - (N - 1 - (k : Int))).toNat = k by omega]
      refine D (N - 1 - (k : Int)) _ (by omega) (by omega) ho (nm_Fr_st F2 (nm_in_c (a := 239) (lo := 0) (hi := 7) (by decide) (by omega) (by omega))) (nm_MTn_st (nm_MTn_cons.2 ⟨hT2, hv2⟩) (by rw [List.length_cons]; omega)) nm_st_eq (fun g0 M3 F3 hT3 => ?_) (fun T' rest M3 g1 r1 l1 i1 F3 hT3 => ?_)
      · obtain ⟨t1, t2⟩ := nm_MTn_cons.1 hT3
        rw [g0, List.nil_append] at K F
        exact ih (by omega) M3 F3 t1 t2 K F
      · rw [g1, List.cons_append] at F
        refine F T' _ M3 rfl ?_ l1 i1 F3 hT3
        rw [r1, hr, List.append_assoc]
    · rw [if_neg (by rw [ho]; decide), List.nil_append] at K F
      exact h_230_62 hL2 ⟨fun _ => ih (by omega) M2 F2 hT2 hv2 K F, fun c => absurd rfl c⟩
theorem nm_230A {d n : Nat} {N x2 : Int} {cn : Int → Int → Bool} {M : am_M} {Q : List am_V → am_M → Prop} (hd : 1 ≤ d) (hL : nm_Lay M) (hN : am_gt M 216 0 = N) (N0 : 0 ≤ N) (N6 : N ≤ 6) (ht : nm_T238 M N cn) (n6 : n ≤ 6) : ∀ (r : Nat) (T : List Int), T.length + r + 1 = n → nm_inN N T → 
  ∀ k : Nat, (k : Int) ≤ N → ∀ M1, nm_Fr nm_nl M M1 → nm_MTn M1 T → am_gt M1 239 (T.length : Int) = N - 1 - (k : Int) →
  (nm_chl (nm_okm cn T) (fun m => nm_gen cn N r (m :: T)) N k = [] → ∀ M2, nm_Fr nm_nl M M2 → nm_MTn M2 T → nm_at230 d n x2 ((T.length : Int) - 1) M2 Q) →
  (∀ T' rest M2, nm_chl (nm_okm cn T) (fun m => nm_gen cn N r (m :: T)) N k = T' :: rest → nm_rst cn N n T' = rest ++ nm_rst cn N n T → T'.length = n → nm_inN N T' → nm_Fr nm_nl M M2 → nm_MTn M2 T' → nm_at230 d n x2 n M2 Q) → nm_at230 d n x2 (T.length : Int) M1 Q := by
  intro r
  induction r with
  | zero =>
    intro T hl hi
    refine nm_230B hd hL hN N0 N6 ht n6 T _ (by omega) hi (fun m M1 m0 m1 ho F1 hT hv K F => ?_) (by rw [show n - 1 - T.length = 0 by omega])
    have := F (m :: T) [] M1 rfl rfl (by rw [List.length_cons]; omega) (fun a ha => by
      rcases List.mem_cons.1 ha with e | e
      · subst e; exact ⟨m0, m1⟩
      · exact hi a e) F1 hT
    rw [show ((n : Nat) : Int) = (T.length : Int) + 1 by omega] at this ⊢
    exact this
  | succ r ihr =>
    intro T hl hi
    refine nm_230B hd hL hN N0 N6 ht n6 T _ (by omega) hi (fun m M1 m0 m1 ho F1 hT hv K F => ?_) (by rw [show n - 1 - T.length = r + 1 by omega])
    have := ihr (m :: T) (by rw [List.length_cons]; omega) (fun a ha => by
      rcases List.mem_cons.1 ha with e | e
      · subst e; exact ⟨m0, m1⟩
      · exact hi a e) N.toNat (by omega) M1 F1 hT (by rw [List.length_cons, show ((T.length + 1 : Nat) : Int) = (T.length : Int) + 1 by omega, hv]; omega)
    rw [List.length_cons, show ((T.length + 1 : Nat) : Int) = (T.length : Int) + 1 by omega, show (T.length : Int) + 1 - 1 = (T.length : Int) by omega] at this
    exact this K F
theorem nm_230C {d n : Nat} {N x2 : Int} {cn : Int → Int → Bool} {M : am_M} {Q : List am_V → am_M → Prop} (hd : 1 ≤ d) (hL : nm_Lay M) (hN : am_gt M 216 0 = N) (N0 : 0 ≤ N) (N6 : N ≤ 6) (ht : nm_T238 M N cn) (n6 : n ≤ 6) (h2 : x2 = 0 ∨ 0 < n) : ∀ (T : List Int), T.length ≤ n → nm_inN N T → ∀ M1, nm_Fr nm_nl M M1 → nm_MTn M1 T →
  (nm_rst cn N n T = [] → ∀ M2, nm_Fr nm_nl M M2 → Q [(0, 0)] M2) →
  (∀ T' M2, nm_rst cn N n T = T' :: nm_rst cn N n T' → T'.length = n → nm_inN N T' → nm_Fr nm_nl M M2 → nm_MTn M2 T' → nm_at230 d n x2 n M2 Q) → nm_at230 d n x2 ((T.length : Int) - 1) M1 Q := by
  intro T
  induction T with
  | nil =>
    intro hl hi M1 F1 hT Z F
    have hL1 := nm_Lay_fr hL F1 (by decide +kernel)
    have z := Z rfl M1 F1
    refine h_230_17 hL1 ⟨fun _ => ⟨fun _ => ⟨fun _ => z, fun h => ?_⟩, fun e => ⟨fun h => ?_, fun _ => ⟨fun _ => z, fun h => ?_⟩⟩⟩, fun h => absurd (show (([] : List Int).length : Int) - 1 < 0 by decide) h⟩
    · exact absurd (show (([] : List Int).length : Int) - 1 ≠ (n : Int) by rw [List.length_nil]; omega) h
    · omega
    · exact absurd (show (([] : List Int).length : Int) - 1 ≠ (n : Int) by rw [List.length_nil]; omega) h
  | cons u T ih =>
    intro hl hi M1 F1 hT Z F
    rw [List.length_cons] at hl
    obtain ⟨t1, t2⟩ := nm_MTn_cons.1 hT
    have u1 := hi u List.mem_cons_self
    have hi' : nm_inN N T := fun a ha => hi a (List.mem_cons_of_mem _ ha)
    have er : nm_rst cn N n (u :: T) = nm_chl (nm_okm cn T) (fun m => nm_gen cn N (n - 1 - T.length) (m :: T)) N (N - 1 - u).toNat ++ nm_rst cn N n T := rfl
    rw [er] at Z F
    rw [List.length_cons, show ((T.length + 1 : Nat) : Int) - 1 = (T.length : Int) by omega]
    refine nm_230A hd hL hN N0 N6 ht n6 (n - 1 - T.length) T (by omega) hi' (N - 1 - u).toNat (by omega) M1 F1 t1 (by rw [t2]; omega) (fun c0 M2 F2 hT2 => ?_) (fun T' rest M2 c1 r1 l1 i1 F2 hT2 => ?_)
    · rw [c0, List.nil_append] at Z F
      exact ih (by omega) hi' M2 F2 hT2 Z F
    · rw [c1] at F
      exact F T' M2 (by rw [r1]; rfl) l1 i1 F2 hT2
/-- the line after T -/
theorem nmm_230n {d n : Nat} {N : Int} {cn : Int → Int → Bool} {T : List Int} {M : am_M} {Q : List am_V → am_M → Prop} (hd : 1 ≤ d) (hL : nm_Lay M) (hN : am_gt M 216 0 = N) (N0 : 0 ≤ N) (N6 : N ≤ 6) (ht : nm_T238 M N cn) (n6 : n ≤ 6) (hl : T.length = n) (hi : nm_inN N T) (hT : nm_MTn M T) (Z : nm_rst cn N n T = [] → ∀ M2, nm_Fr nm_nl M M2 → Q [(0, 0)] M2) (F : ∀ T' M2, nm_rst cn N n T = T' :: nm_rst cn N n T' → T'.length = n → nm_inN N T' → nm_Fr nm_nl M M2 → nm_MTn M2 T' → Q [(0, 1)] M2) : am_CL d 230 [(2, 214), (0, (n : Int)), (0, 0)] M Q := by
  refine h_230_0 hL ⟨fun _ => ?_, fun c => absurd rfl c⟩
  rw [am_w_id (by omega) (by omega)]
  have := nm_230C (Q := Q) hd hL hN N0 N6 ht n6 (x2 := 0) (.inl rfl) T (by omega) hi M (nm_Fg_refl _ _) hT Z (fun T' M2 r1 l1 i1 F2 hT2 => ?_)
  · rw [hl] at this; exact this
  · have hn : 0 < n := by
      rcases Nat.eq_zero_or_pos n with e | e
      · rw [List.eq_nil_of_length_eq_zero (hl.trans e)] at r1
        cases r1
      · exact e
    refine h_230_17 (nm_Lay_fr hL F2 (by decide +kernel)) ⟨fun h => absurd h (by omega), fun _ => ⟨fun _ => ⟨fun _ => ⟨fun c => absurd rfl c, fun _ => ⟨fun h => absurd h (by omega), fun _ => F T' M2 r1 l1 i1 F2 hT2⟩⟩, fun c => absurd rfl c⟩, fun h => absurd (Int.le_refl _) h⟩⟩
/-- the first line of length n -/
theorem nmm_230f {d n : Nat} {N : Int} {cn : Int → Int → Bool} {M : am_M} {Q : List am_V → am_M → Prop} (hd : 1 ≤ d) (hL : nm_Lay M) (hN : am_gt M 216 0 = N) (N0 : 0 ≤ N) (N6 : N ≤ 6) (ht : nm_T238 M N cn) (n6 : n ≤ 6) (Z : nm_gen cn N n [] = [] → ∀ M2, nm_Fr nm_nl M M2 → Q [(0, 0)] M2) (F : ∀ T' M2, nm_gen cn N n [] = T' :: nm_rst cn N n T' → T'.length = n → nm_inN N T' → nm_Fr nm_nl M M2 → nm_MTn M2 T' → Q [(0, 1)] M2) : am_CL d 230 [(2, 214), (0, (n : Int)), (0, 1)] M Q := by
  refine h_230_0 hL ⟨fun c => absurd c (by decide), fun _ => ?_⟩
  have F1 : nm_Fr nm_nl M (am_st M 239 0 (-1)) := nm_Fr_st (nm_Fg_refl _ _) (by decide)
  have hv : am_gt (am_st M 239 0 (-1)) 239 0 = -1 := nm_st_eq
  generalize am_st M 239 0 (-1) = M1 at F1 hv ⊢
  have hL1 := nm_Lay_fr hL F1 (by decide +kernel)
  have hT0 : ∀ M', nm_MTn M' [] := fun M' q a b => by rw [List.length_nil] at b; omega
  have i0 : nm_inN N [] := fun a ha => by cases ha
  rcases Nat.eq_zero_or_pos n with e | e
  · subst e
    have f := F [] M1 rfl rfl i0 F1 (hT0 M1)
    exact h_230_17 hL1 ⟨fun h => absurd h (by decide), fun _ => ⟨fun _ => ⟨fun c => absurd c (by decide), fun _ => ⟨fun _ => f, fun c => absurd rfl c⟩⟩, fun h => absurd (by decide) h⟩⟩
  · obtain ⟨r, hr⟩ : ∃ r, n = r + 1 := ⟨n - 1, by omega⟩
    have eg : nm_gen cn N n [] = nm_chl (nm_okm cn []) (fun m => nm_gen cn N r (m :: [])) N N.toNat := by rw [hr]; rfl
    rw [eg] at Z F
    have := nm_230A (x2 := 1) (Q := Q) hd hL hN N0 N6 ht n6 r [] (by rw [List.length_nil]; omega) i0 N.toNat (by omega) M1 F1 (hT0 M1) (by rw [List.length_nil, show ((0 : Nat) : Int) = 0 from rfl, hv]; omega) (fun c0 M2 F2 hT2 => ?_) (fun T' rest M2 c1 r1 l1 i1 F2 hT2 => ?_)
    · exact this
    · exact nm_230C (n := n) (cn := cn) hd hL hN N0 N6 ht n6 (.inr e) [] (by rw [List.length_nil]; omega) i0 M2 F2 (hT0 M2) (fun _ => Z c0) (fun T' M3 r1 => by cases r1)
    · refine h_230_17 (nm_Lay_fr hL F2 (by decide +kernel)) ⟨fun h => absurd h (by omega), fun _ => ⟨fun _ => ⟨fun c => absurd c (by decide), fun _ => ⟨fun h => absurd h (by omega), fun _ => ⟨fun c => absurd rfl c, fun _ => ⟨fun h => absurd h (by omega), fun _ => ?_⟩⟩⟩⟩, fun h => absurd (Int.le_refl _) h⟩⟩
      exact F T' M2 (by rw [c1, r1]; show T' :: rest = T' :: (rest ++ []); rw [List.append_nil]) l1 i1 F2 hT2
