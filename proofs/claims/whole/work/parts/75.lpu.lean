/-! LINES: what both find -/
theorem nm_chl_mem {ok : Int → Bool} {g : Int → List (List Int)} {N : Int} {x : List Int} : ∀ k : Nat, x ∈ nm_chl ok g N k ↔ ∃ m, N - (k : Int) ≤ m ∧ m < N ∧ ok m = true ∧ x ∈ g m
  | 0 => ⟨fun h => (by cases h), fun ⟨m, a, b, _⟩ => by omega⟩
  | k + 1 => by
    show x ∈ (if ok (N - 1 - (k : Int)) then g (N - 1 - (k : Int)) else []) ++ nm_chl ok g N k ↔ _
    rw [List.mem_append, nm_chl_mem k]
    constructor
    · rintro (h | ⟨m, a, b, c, e⟩)
      · by_cases o : ok (N - 1 - (k : Int)) = true
        · rw [if_pos o] at h; exact ⟨_, by omega, by omega, o, h⟩
        · rw [if_neg o] at h; cases h
      · exact ⟨m, by omega, b, c, e⟩
    · rintro ⟨m, a, b, c, e⟩
      by_cases hm : m = N - 1 - (k : Int)
      · subst hm; exact .inl (by rw [if_pos c]; exact e)
      · exact .inr ⟨m, by omega, b, c, e⟩
/-- a line that may hang -/
def nm_vl (cn : Int → Int → Bool) (N : Int) : List Int → Prop
  | [] => True
  | m :: T => (0 ≤ m ∧ m < N) ∧ nm_okm cn T m = true ∧ nm_vl cn N T
theorem nm_gen_vl {cn : Int → Int → Bool} {N : Int} : ∀ (r : Nat) (T T' : List Int), nm_vl cn N T → T' ∈ nm_gen cn N r T → nm_vl cn N T' ∧ T'.length = T.length + r
  | 0, T, T', h, hm => by
    rw [List.mem_singleton.1 (show T' ∈ [T] from hm)]; exact ⟨h, rfl⟩
  | r + 1, T, T', h, hm => by
    obtain ⟨m, a, b, c, e⟩ := (nm_chl_mem _).1 (show T' ∈ nm_chl (nm_okm cn T) (fun m => nm_gen cn N r (m :: T)) N N.toNat from hm)
    obtain ⟨h1, h2⟩ := nm_gen_vl r (m :: T) T' ⟨⟨by omega, b⟩, c, h⟩ e
    exact ⟨h1, by rw [h2, List.length_cons]; omega⟩
theorem nm_vl_drop {cn : Int → Int → Bool} {N : Int} : ∀ (r : Nat) (T : List Int), nm_vl cn N T → nm_vl cn N (T.drop r)
  | 0, _, h => h
  | r + 1, [], _ => trivial
  | r + 1, m :: T, h => nm_vl_drop r T h.2.2
theorem nm_vl_gen {cn : Int → Int → Bool} {N : Int} : ∀ (r : Nat) (T T' : List Int), T'.length = T.length + r → T'.drop r = T → nm_vl cn N T' → T' ∈ nm_gen cn N r T
  | 0, T, T', _, hd, _ => by
    rw [show T' = T from hd]; exact List.mem_singleton.2 rfl
  | r + 1, T, T', hl, hd, hv => by
    have hv1 := nm_vl_drop r T' hv
    have hl1 : (T'.drop r).length = T.length + 1 := by rw [List.length_drop]; omega
    have hd1 : (T'.drop r).drop 1 = T := by rw [List.drop_drop]; exact hd
    cases hT : T'.drop r with
    | nil => rw [hT] at hl1; simp at hl1
    | cons m T1 =>
      rw [hT] at hd1 hv1 hl1
      have e : T1 = T := hd1
      subst e
      refine (nm_chl_mem _).2 ⟨m, by have := hv1.1; omega, hv1.1.2, hv1.2.1, ?_⟩
      exact nm_vl_gen r (m :: T1) T' (by rw [List.length_cons]; omega) hT hv
theorem nm_gen0 {cn : Int → Int → Bool} {N : Int} {n : Nat} {T : List Int} : T ∈ nm_gen cn N n [] ↔ nm_vl cn N T ∧ T.length = n := by
  constructor
  · intro h
    have := nm_gen_vl n [] T trivial h
    exact ⟨this.1, by rw [this.2, List.length_nil]; omega⟩
  · rintro ⟨h, l⟩
    exact nm_vl_gen n [] T (by rw [List.length_nil]; omega) (by rw [← l]; exact List.drop_length) h
theorem nm_nod_mem {cn : Int → Int → Bool} {N : Int} : ∀ (r : Nat) (T T' : List Int), T' ∈ nm_nod cn N r T ↔ ∃ j, j ≤ r ∧ T' ∈ nm_gen cn N j T
  | 0, T, T' => ⟨fun h => ⟨0, Nat.le_refl _, h⟩, fun ⟨j, hj, h⟩ => by rw [Nat.le_zero.1 hj] at h; exact h⟩
  | r + 1, T, T' => by
    show T' ∈ T :: nm_chl (nm_okm cn T) (fun m => nm_nod cn N r (m :: T)) N N.toNat ↔ _
    rw [List.mem_cons, nm_chl_mem]
    constructor
    · rintro (h | ⟨m, a, b, c, e⟩)
      · exact ⟨0, Nat.zero_le _, by rw [h]; exact List.mem_singleton.2 rfl⟩
      · obtain ⟨j, hj, hm⟩ := (nm_nod_mem r (m :: T) T').1 e
        exact ⟨j + 1, by omega, (nm_chl_mem _).2 ⟨m, a, b, c, hm⟩⟩
    · rintro ⟨j, hj, hm⟩
      cases j with
      | zero => exact .inl (List.mem_singleton.1 (show T' ∈ [T] from hm))
      | succ j =>
        obtain ⟨m, a, b, c, e⟩ := (nm_chl_mem _).1 (show T' ∈ nm_chl (nm_okm cn T) (fun m => nm_gen cn N j (m :: T)) N N.toNat from hm)
        exact .inr ⟨m, a, b, c, (nm_nod_mem r (m :: T) T').2 ⟨j, by omega, e⟩⟩
theorem nm_gs_mem {cn : Int → Int → Bool} {N : Int} {T : List Int} : ∀ (k n : Nat), T ∈ nm_gs cn N k n ↔ ∃ j, n ≤ j ∧ j < n + k ∧ T ∈ nm_gen cn N j []
  | 0, n => ⟨fun h => (by cases h), fun ⟨j, a, b, _⟩ => by omega⟩
  | k + 1, n => by
    show T ∈ nm_gen cn N n [] ++ nm_gs cn N k (n + 1) ↔ _
    rw [List.mem_append, nm_gs_mem k (n + 1)]
    constructor
    · rintro (h | ⟨j, a, b, c⟩)
      · exact ⟨n, Nat.le_refl _, by omega, h⟩
      · exact ⟨j, by omega, by omega, c⟩
    · rintro ⟨j, a, b, c⟩
      by_cases e : j = n
      · subst e; exact .inl c
      · exact .inr ⟨j, by omega, by omega, c⟩
theorem nm_gs_split {cn : Int → Int → Bool} {N : Int} : ∀ (a b n : Nat), nm_gs cn N (a + b) n = nm_gs cn N a n ++ nm_gs cn N b (n + a)
  | 0, b, n => by rw [Nat.zero_add, Nat.add_zero]; rfl
  | a + 1, b, n => by
    rw [show a + 1 + b = (a + b) + 1 by omega, show n + (a + 1) = n + 1 + a by omega]
    show nm_gen cn N n [] ++ nm_gs cn N (a + b) (n + 1) = (nm_gen cn N n [] ++ nm_gs cn N a (n + 1)) ++ _
    rw [nm_gs_split a b (n + 1), List.append_assoc]
/-- what hangs past the hour makes nothing -/
theorem nm_ofl_long {X : nm_X} {H : Int} {cn : Int → Int → Bool} {N : Int} (H0 : 0 ≤ H) : ∀ T : List Int, nm_vl cn N T → ∃ T', nm_vl cn N T' ∧ (T'.length : Int) ≤ H ∧ T'.length ≤ T.length ∧ nm_ofl X H T' = nm_ofl X H T
  | [], h => ⟨[], h, by rw [List.length_nil]; omega, Nat.le_refl _, rfl⟩
  | m :: T, h => by
    by_cases g : ((m :: T).length : Int) ≤ H
    · exact ⟨m :: T, h, g, Nat.le_refl _, rfl⟩
    · obtain ⟨T', h1, h2, h3, h4⟩ := nm_ofl_long (X := X) H0 T h.2.2
      refine ⟨T', h1, h2, by rw [List.length_cons]; omega, ?_⟩
      rw [h4]
      unfold nm_ofl
      rw [List.length_cons] at g
      rw [nm_ms_cons, show (H - (T.length : Int)).toNat = 0 by omega, show ∀ f lo, nm_hs f lo 0 = [] from fun _ _ => rfl, List.append_nil]
/-- near -/
theorem nm_mn_le {f : List Int → Int} : ∀ {L : List (List Int)} {b : Int}, nm_mn f b L ≤ b ∧ ∀ T ∈ L, nm_mn f b L ≤ f T
  | [], b => ⟨Int.le_refl _, fun T h => by cases h⟩
  | U :: L, b => by
    obtain ⟨h1, h2⟩ := nm_mn_le (f := f) (L := L) (b := if b ≤ f U then b else f U)
    have e : nm_mn f b (U :: L) = nm_mn f (if b ≤ f U then b else f U) L := rfl
    rw [e]
    refine ⟨?_, fun T h => ?_⟩
    · by_cases g : b ≤ f U
      · rw [if_pos g] at h1 ⊢; omega
      · rw [if_neg g] at h1 ⊢; omega
    · rcases List.mem_cons.1 h with c | c
      · subst c
        by_cases g : b ≤ f T
        · rw [if_pos g] at h1 ⊢; omega
        · rw [if_neg g] at h1 ⊢; omega
      · exact h2 T c
theorem nm_mn_at {f : List Int → Int} : ∀ {L : List (List Int)} {b : Int}, nm_mn f b L = b ∨ ∃ T ∈ L, nm_mn f b L = f T
  | [], b => .inl rfl
  | U :: L, b => by
    have e : nm_mn f b (U :: L) = nm_mn f (if b ≤ f U then b else f U) L := rfl
    rw [e]
    rcases nm_mn_at (f := f) (L := L) (b := if b ≤ f U then b else f U) with h | ⟨T, h1, h2⟩
    · by_cases g : b ≤ f U
      · rw [if_pos g] at h ⊢; exact .inl h
      · rw [if_neg g] at h ⊢; exact .inr ⟨U, List.mem_cons_self, h⟩
    · exact .inr ⟨T, List.mem_cons_of_mem _ h1, h2⟩
theorem nm_near_eq {X : nm_X} {H : Int} {n : Nat} (H0 : 0 ≤ H) (hn : (n : Int) = min (nx_S X 0) H) (hb : nm_ofl X H [] ≤ 100000000) : nm_mn (nm_ofl X H) (nm_ofl X H []) (nm_nod (nm_cn X) (nx_S X 0) n []) = nm_mn (nm_ofl X H) 100000000 (nm_gs (nm_cn X) (nx_S X 0) ((nx_S X 0).toNat + 1) 0) := by
  have h0 : ([] : List Int) ∈ nm_gs (nm_cn X) (nx_S X 0) ((nx_S X 0).toNat + 1) 0 := (nm_gs_mem _ _).2 ⟨0, Nat.le_refl _, by omega, nm_gen0.2 ⟨trivial, rfl⟩⟩
  obtain ⟨a1, a2⟩ := nm_mn_le (f := nm_ofl X H) (L := nm_nod (nm_cn X) (nx_S X 0) n []) (b := nm_ofl X H [])
  obtain ⟨b1, b2⟩ := nm_mn_le (f := nm_ofl X H) (L := nm_gs (nm_cn X) (nx_S X 0) ((nx_S X 0).toNat + 1) 0) (b := 100000000)
  refine Int.le_antisymm ?_ ?_
  · rcases nm_mn_at (f := nm_ofl X H) (L := nm_gs (nm_cn X) (nx_S X 0) ((nx_S X 0).toNat + 1) 0) (b := 100000000) with h | ⟨T, h1, h2⟩
    · rw [h]; omega
    · rw [h2]
      obtain ⟨j, _, hj, hg⟩ := (nm_gs_mem _ _).1 h1
      obtain ⟨v1, v2⟩ := nm_gen0.1 hg
      obtain ⟨T', t1, t2, t3, t4⟩ := nm_ofl_long (X := X) H0 T v1
      rw [← t4]
      exact a2 T' ((nm_nod_mem _ _ _).2 ⟨T'.length, by omega, nm_gen0.2 ⟨t1, rfl⟩⟩)
  · rcases nm_mn_at (f := nm_ofl X H) (L := nm_nod (nm_cn X) (nx_S X 0) n []) (b := nm_ofl X H []) with h | ⟨T, h1, h2⟩
    · rw [h]; exact b2 [] h0
    · rw [h2]
      obtain ⟨j, hj, hg⟩ := (nm_nod_mem _ _ _).1 h1
      exact b2 T ((nm_gs_mem _ _).2 ⟨j, Nat.zero_le _, by omega, hg⟩)
/-- whole -/
def nm_tr (H : Int) : Nat → Nat
  | 0 => 0
  | n + 1 => nm_tr H n + (H - (n : Int)).toNat
theorem nm_ms_tr {mk : Int → Int → Int → Int} {H : Int} {a : Int → Int} : ∀ n : Nat, (nm_ms mk H a n).length = nm_tr H n
  | 0 => rfl
  | n + 1 => by
    show (nm_ms mk H a n ++ nm_hs _ _ _).length = nm_tr H n + _
    rw [List.length_append, nm_hs_len, nm_ms_tr n]
theorem nm_tr_lt {H : Int} : ∀ {b a : Nat}, a < b → (b : Int) ≤ H → nm_tr H a < nm_tr H b
  | 0, a, h, _ => absurd h (Nat.not_lt_zero _)
  | b + 1, a, h, hb => by
    show nm_tr H a < nm_tr H b + (H - (b : Int)).toNat
    by_cases e : a = b
    · subst e; omega
    · have := nm_tr_lt (H := H) (b := b) (a := a) (by omega) (by omega)
      omega
theorem nm_tr_inj {H : Int} {a b : Nat} (ha : (a : Int) ≤ H) (hb : (b : Int) ≤ H) (h : nm_tr H a = nm_tr H b) : a = b := by
  rcases Nat.lt_trichotomy a b with c | c | c
  · have := nm_tr_lt c hb; omega
  · exact c
  · have := nm_tr_lt c ha; omega
theorem nm_cnt_sum : ∀ (l : List Int), (∀ x ∈ l, 0 ≤ x ∧ x ≤ 7) → nm_sm (fun q => (l.count q : Int)) 8 = (l.length : Int)
  | [], _ => by decide +kernel
  | a :: l, h => by
    have ha := h a List.mem_cons_self
    rw [nm_sm_chg (f := fun q => (l.count q : Int)) (e := 1) ha.1 (fun q hq => ?_) ?_ 8, nm_cnt_sum l (fun x hx => h x (List.mem_cons_of_mem _ hx)), if_pos (by omega), List.length_cons]
    · omega
    · show (((a :: l).count a : Nat) : Int) = (l.count a : Int) + 1
      rw [List.count_cons_self]; omega
    · show (((a :: l).count q : Nat) : Int) = (l.count q : Int)
      rw [List.count_cons_of_ne (fun c => hq c.symm)]
theorem nm_sm_nn {f : Int → Int} : ∀ {k : Nat}, (∀ i : Nat, i < k → 0 ≤ f (i : Int)) → 0 ≤ nm_sm f k
  | 0, _ => Int.le_refl _
  | k + 1, h => by
    have h1 := nm_sm_nn (f := f) (k := k) (fun i hi => h i (by omega))
    have h2 := h k (by omega)
    show 0 ≤ nm_sm f k + f (k : Int)
    omega
theorem nm_sm_zero {f : Int → Int} : ∀ {k : Nat}, (∀ i : Nat, i < k → 0 ≤ f (i : Int)) → nm_sm f k = 0 → ∀ i : Nat, i < k → f (i : Int) = 0
  | 0, _, _, i, h => absurd h (Nat.not_lt_zero _)
  | k + 1, h, e, i, hi => by
    have e' : nm_sm f k + f (k : Int) = 0 := e
    have h1 : 0 ≤ nm_sm f k := nm_sm_nn (fun i hi => h i (by omega))
    have h2 := h k (by omega)
    by_cases c : i = k
    · subst c; omega
    · exact nm_sm_zero (k := k) (fun j hj => h j (by omega)) (by omega) i (by omega)
theorem nm_sm_cong {f g : Int → Int} : ∀ {k : Nat}, (∀ i : Nat, i < k → f (i : Int) = g (i : Int)) → nm_sm f k = nm_sm g k
  | 0, _ => rfl
  | k + 1, h => by
    show nm_sm f k + f (k : Int) = nm_sm g k + g (k : Int)
    rw [nm_sm_cong (fun i hi => h i (by omega)), h k (by omega)]
theorem nm_ms_in {X : nm_X} {H : Int} {a : Int → Int} : ∀ n : Nat, ∀ x ∈ nm_ms (nm_mkx X) H a n, 0 ≤ x ∧ x ≤ 7
  | 0, x, h => by cases h
  | n + 1, x, h => by
    rcases List.mem_append.1 (show x ∈ nm_ms (nm_mkx X) H a n ++ nm_hs _ _ _ from h) with c | c
    · exact nm_ms_in n x c
    · obtain ⟨k, _, e⟩ := nm_hs_mem c
      rw [e]; exact nm_mkx_in
theorem nm_ofl_tr {X : nm_X} {H : Int} {T : List Int} (h : nm_ofl X H T = 0) : (nm_tr H T.length : Int) = nm_sm (nm_ck X) 8 := by
  unfold nm_ofl nm_off at h
  rw [← nm_ms_tr (mk := nm_mkx X) (a := nm_at T), ← nm_cnt_sum _ (nm_ms_in _)]
  refine nm_sm_cong (fun i hi => ?_)
  have := nm_sm_zero (fun j _ => by show 0 ≤ nm_ab _; unfold nm_ab; split <;> omega) h i hi
  simp only at this
  unfold nm_ab at this
  show _ = nx_S X (77 + (i : Int))
  split at this <;> omega
theorem nm_wf_none {X : nm_X} {H : Int} {L : List (List Int)} : nm_wf X H L = none ↔ ∀ T ∈ L, nm_ofl X H T ≠ 0 := by
  unfold nm_wf
  rw [List.find?_eq_none]
  constructor
  · intro h T hT c; exact h T hT (decide_eq_true c)
  · intro h T hT c; exact h T hT (of_decide_eq_true c)
theorem nm_wf_some {X : nm_X} {H : Int} {L : List (List Int)} {T : List Int} (h : nm_wf X H L = some T) : T ∈ L ∧ nm_ofl X H T = 0 :=
  ⟨List.mem_of_find?_eq_some h, of_decide_eq_true (List.find?_some (p := fun T => decide (nm_ofl X H T = 0)) h)⟩
theorem nm_wh_no {X : nm_X} {H : Int} (H0 : 0 ≤ H) (h : ∀ T, nm_vl (nm_cn X) (nx_S X 0) T → (T.length : Int) ≤ H → (T.length : Int) ≤ nx_S X 0 → nm_ofl X H T ≠ 0) (o : 0 ≤ nx_S X 0) : nm_wf X H (nm_gs (nm_cn X) (nx_S X 0) ((nx_S X 0).toNat + 1) 0) = none := by
  refine nm_wf_none.2 (fun T hT c => ?_)
  obtain ⟨j, _, hj, hg⟩ := (nm_gs_mem _ _).1 hT
  obtain ⟨v1, v2⟩ := nm_gen0.1 hg
  obtain ⟨T', t1, t2, t3, t4⟩ := nm_ofl_long (X := X) H0 T v1
  exact h T' t1 t2 (by omega) (t4.trans c)
theorem nm_wh_eq {X : nm_X} {H : Int} {n : Nat} (H0 : 0 ≤ H) (o : 0 ≤ nx_S X 0) (n1 : (n : Int) ≤ nx_S X 0) (n2 : (n : Int) ≤ H) (ht : (nm_tr H n : Int) = nm_sm (nm_ck X) 8) : nm_wf X H (nm_gs (nm_cn X) (nx_S X 0) ((nx_S X 0).toNat + 1) 0) = nm_wf X H (nm_gen (nm_cn X) (nx_S X 0) n []) := by
  cases hw : nm_wf X H (nm_gen (nm_cn X) (nx_S X 0) n []) with
  | none =>
    refine nm_wh_no H0 (fun T v l1 l2 c => ?_) o
    have e : T.length = n := nm_tr_inj l1 n2 (by have := nm_ofl_tr c; omega)
    exact nm_wf_none.1 hw T (nm_gen0.2 ⟨v, e⟩) c
  | some T =>
    rw [show (nx_S X 0).toNat + 1 = n + (((nx_S X 0).toNat - n) + 1) by omega, nm_gs_split, nm_wf_app, Nat.zero_add]
    have h1 : nm_wf X H (nm_gs (nm_cn X) (nx_S X 0) n 0) = none := nm_wf_none.2 (fun U hU c => by
      obtain ⟨j, _, hj, hg⟩ := (nm_gs_mem _ _).1 hU
      obtain ⟨v1, v2⟩ := nm_gen0.1 hg
      have e : U.length = n := nm_tr_inj (H := H) (by omega) n2 (by have := nm_ofl_tr c; omega)
      omega)
    rw [h1, Option.none_or]
    show nm_wf X H (nm_gen (nm_cn X) (nx_S X 0) n [] ++ _) = _
    rw [nm_wf_app, hw]; rfl
