/-! TOKENS: what lies on the tape, cut into words, numbers and signs -/
def tk_run (p : Int → Bool) : Nat → Int → Int
  | 0, i => i
  | n + 1, i => bif p i then tk_run p n (i + 1) else i
def tk_to (p : Int → Bool) (L i : Int) : Int := tk_run p (L - i).toNat i
theorem tk_to_go {p : Int → Bool} {L i : Int} (hi : i < L) (hp : p i = true) : tk_to p L i = tk_to p L (i + 1) := by
  unfold tk_to
  obtain ⟨n, hn⟩ : ∃ n, (L - i).toNat = n + 1 := ⟨(L - i).toNat - 1, by omega⟩
  have h2 : (L - (i + 1)).toNat = n := by omega
  rw [hn, h2]
  show (bif p i then tk_run p n (i + 1) else i) = _
  rw [hp]; rfl
theorem tk_to_no {p : Int → Bool} {L i : Int} (hp : p i = false) : tk_to p L i = i := by
  unfold tk_to
  cases (L - i).toNat with
  | zero => rfl
  | succ n =>
    show (bif p i then tk_run p n (i + 1) else i) = _
    rw [hp]; rfl
theorem tk_to_end {p : Int → Bool} {L i : Int} (hi : L ≤ i) : tk_to p L i = i := by
  unfold tk_to
  rw [show (L - i).toNat = 0 by omega]; rfl
theorem tk_to_ind {p : Int → Bool} {L : Int} : ∀ (n : Nat) (i : Int), (L - i).toNat ≤ n → i ≤ L → (i ≤ tk_to p L i ∧ tk_to p L i ≤ L) ∧ (∀ j, i ≤ j → j < tk_to p L i → p j = true) ∧ (tk_to p L i < L → p (tk_to p L i) = false) := by
  intro n
  induction n with
  | zero =>
    intro i h1 h2
    have : i = L := by omega
    rw [tk_to_end (by omega)]
    exact ⟨⟨by omega, by omega⟩, fun j a b => by omega, fun h => by omega⟩
  | succ n ih =>
    intro i h1 h2
    by_cases hi : i < L
    · cases hp : p i with
      | true =>
        rw [tk_to_go hi hp]
        obtain ⟨⟨a, b⟩, c, e⟩ := ih (i + 1) (by omega) (by omega)
        refine ⟨⟨by omega, b⟩, fun j x y => ?_, e⟩
        by_cases hj : j = i
        · rw [hj]; exact hp
        · exact c j (by omega) y
      | false =>
        rw [tk_to_no hp]
        exact ⟨⟨by omega, by omega⟩, fun j a b => by omega, fun _ => hp⟩
    · rw [tk_to_end (by omega)]
      exact ⟨⟨by omega, by omega⟩, fun j a b => by omega, fun h => by omega⟩
theorem tk_to_b {p : Int → Bool} {L i : Int} (h : i ≤ L) : i ≤ tk_to p L i ∧ tk_to p L i ≤ L := (tk_to_ind _ i (Nat.le_refl _) h).1
theorem tk_to_all {p : Int → Bool} {L i : Int} (h : i ≤ L) : ∀ j, i ≤ j → j < tk_to p L i → p j = true := (tk_to_ind _ i (Nat.le_refl _) h).2.1
def tk_sp (c : Int) : Bool := decide (c = 32)
def tk_sm (c : Int) : Bool := decide (97 ≤ c ∧ c ≤ 122)
def tk_dg (c : Int) : Bool := decide (48 ≤ c ∧ c ≤ 57)
/-- a tape and its length -/
abbrev tk_T : Type := (Int → Int) × Int
def tk_ok (T : tk_T) : Prop := 0 ≤ T.2 ∧ T.2 ≤ 400 ∧ ∀ i, 0 ≤ i → i < T.2 → 0 ≤ T.1 i ∧ T.1 i ≤ 255
/-- where a token begins, where it ends -/
def tk_b (T : tk_T) (s : Int) : Int := tk_to (fun i => tk_sp (T.1 i)) T.2 s
def tk_k (T : tk_T) (s : Int) : Int := if tk_b T s < T.2 then (if tk_sm (T.1 (tk_b T s)) = true then 1 else if tk_dg (T.1 (tk_b T s)) = true then 2 else 3) else 0
def tk_e (T : tk_T) (s : Int) : Int := if tk_k T s = 0 then tk_b T s else if tk_k T s = 1 then tk_to (fun i => tk_sm (T.1 i)) T.2 (tk_b T s) else if tk_k T s = 2 then tk_to (fun i => tk_dg (T.1 i)) T.2 (tk_b T s) else tk_b T s + 1
def tk_dv (P : Int → Int) (b : Int) : Nat → Int
  | 0 => 0
  | k + 1 => if 1000000 < tk_dv P b k then tk_dv P b k else tk_dv P b k * 10 + P (b + (k : Int)) - 48
def tk_wv (P : Int → Int) (b : Int) : Nat → Int
  | 0 => 0
  | k + 1 => if k < 10 then tk_wv P b k * 32 + P (b + (k : Int)) - 96 else -1
def tk_len (T : tk_T) (s : Int) : Nat := (tk_e T s - tk_b T s).toNat
/-- its worth, as the reference has it -/
def tk_w (T : tk_T) (s : Int) : Int := if tk_k T s = 3 then T.1 (tk_b T s) else if tk_k T s = 1 then tk_wv T.1 (tk_b T s) (tk_len T s) else if tk_k T s = 2 then tk_dv T.1 (tk_b T s) (tk_len T s) else 0
/-- the number of digits, as the class has it -/
def tk_c (T : tk_T) (s : Int) : Int := if tk_k T s = 2 then min (tk_w T s) 1001 else 0
/-- its text -/
def tk_x (T : tk_T) (s : Int) : List Int := (List.range (tk_len T s)).map (fun i : Nat => T.1 (tk_b T s + (i : Int)))
/-- a number from lo to hi -/
abbrev tk_n (T : tk_T) (s lo hi : Int) : Prop := tk_k T s = 2 ∧ lo ≤ tk_w T s ∧ tk_w T s ≤ hi
theorem tk_kc (T : tk_T) (s : Int) : tk_k T s = 0 ∨ tk_k T s = 1 ∨ tk_k T s = 2 ∨ tk_k T s = 3 := by
  unfold tk_k; repeat' split
  all_goals omega
theorem tk_k0 {T : tk_T} {s : Int} : tk_k T s = 0 ↔ T.2 ≤ tk_b T s := by
  unfold tk_k
  by_cases h : tk_b T s < T.2
  · rw [if_pos h]; split
    · omega
    · split <;> omega
  · rw [if_neg h]; omega
theorem tk_k1 {T : tk_T} {s : Int} : tk_k T s = 1 ↔ tk_b T s < T.2 ∧ tk_sm (T.1 (tk_b T s)) = true := by
  unfold tk_k
  by_cases h : tk_b T s < T.2
  · rw [if_pos h]
    by_cases h1 : tk_sm (T.1 (tk_b T s)) = true
    · rw [if_pos h1]; exact ⟨fun _ => ⟨h, h1⟩, fun _ => rfl⟩
    · rw [if_neg h1]
      refine ⟨fun h2 => ?_, fun h2 => absurd h2.2 h1⟩
      split at h2 <;> omega
  · rw [if_neg h]; exact ⟨fun h2 => by omega, fun h2 => absurd h2.1 h⟩
theorem tk_sd {c : Int} (h : tk_dg c = true) : tk_sm c = false := by
  unfold tk_dg at h; unfold tk_sm
  have := of_decide_eq_true h
  exact decide_eq_false (by omega)
theorem tk_k2 {T : tk_T} {s : Int} : tk_k T s = 2 ↔ tk_b T s < T.2 ∧ tk_dg (T.1 (tk_b T s)) = true := by
  unfold tk_k
  by_cases h : tk_b T s < T.2
  · rw [if_pos h]
    by_cases h2 : tk_dg (T.1 (tk_b T s)) = true
    · rw [tk_sd h2, if_neg (by decide), if_pos h2]; exact ⟨fun _ => ⟨h, h2⟩, fun _ => rfl⟩
    · refine ⟨fun h3 => ?_, fun h3 => absurd h3.2 h2⟩
      rw [if_neg h2] at h3
      split at h3 <;> omega
  · rw [if_neg h]; exact ⟨fun h2 => by omega, fun h2 => absurd h2.1 h⟩
theorem tk_k3 {T : tk_T} {s : Int} : tk_k T s = 3 ↔ tk_b T s < T.2 ∧ tk_sm (T.1 (tk_b T s)) = false ∧ tk_dg (T.1 (tk_b T s)) = false := by
  unfold tk_k
  by_cases h : tk_b T s < T.2
  · rw [if_pos h]
    cases h1 : tk_sm (T.1 (tk_b T s)) <;> cases h2 : tk_dg (T.1 (tk_b T s)) <;> simp [h]
  · rw [if_neg h]; exact ⟨fun h2 => by omega, fun h2 => absurd h2.1 h⟩
theorem tk_bb {T : tk_T} {s : Int} (h : s ≤ T.2) : s ≤ tk_b T s ∧ tk_b T s ≤ T.2 := tk_to_b h
theorem tk_eb {T : tk_T} {s : Int} (h : s ≤ T.2) : tk_b T s ≤ tk_e T s ∧ tk_e T s ≤ T.2 ∧ (tk_k T s ≠ 0 → tk_b T s < tk_e T s) := by
  obtain ⟨b1, b2⟩ := tk_bb h
  unfold tk_e
  rcases tk_kc T s with e | e | e | e
  · rw [if_pos e]; exact ⟨Int.le_refl _, b2, fun h => absurd e h⟩
  · obtain ⟨q1, q2⟩ := tk_k1.mp e
    rw [if_neg (by omega), if_pos e, tk_to_go q1 q2]
    obtain ⟨c1, c2⟩ := tk_to_b (p := fun i => tk_sm (T.1 i)) (L := T.2) (i := tk_b T s + 1) (by omega)
    exact ⟨by omega, c2, fun _ => by omega⟩
  · obtain ⟨q1, q2⟩ := tk_k2.mp e
    rw [if_neg (by omega), if_neg (by omega), if_pos e, tk_to_go q1 q2]
    obtain ⟨c1, c2⟩ := tk_to_b (p := fun i => tk_dg (T.1 i)) (L := T.2) (i := tk_b T s + 1) (by omega)
    exact ⟨by omega, c2, fun _ => by omega⟩
  · obtain ⟨q1, q2⟩ := tk_k3.mp e
    rw [if_neg (by omega), if_neg (by omega), if_neg (by omega)]
    exact ⟨by omega, by omega, fun _ => by omega⟩
theorem tk_x0 {T : tk_T} {s : Int} (h : s ≤ T.2) : tk_k T s = 0 ↔ tk_x T s = [] := by
  obtain ⟨e1, e2, e3⟩ := tk_eb h
  unfold tk_x
  constructor
  · intro hk
    have : tk_e T s = tk_b T s := by unfold tk_e; rw [if_pos hk]
    unfold tk_len; rw [this, show (tk_b T s - tk_b T s).toNat = 0 by omega]; rfl
  · intro hx
    have h0 : (tk_len T s) = 0 := by
      have := congrArg List.length hx
      rw [List.length_map, List.length_range] at this; exact this
    unfold tk_len at h0
    by_cases hk : tk_k T s = 0
    · exact hk
    · have := e3 hk; omega
/-- a token that is there takes room -/
theorem tk_adv {T : tk_T} {s : Int} (h : s ≤ T.2) (hx : tk_x T s ≠ []) : s < tk_e T s := by
  obtain ⟨b1, b2⟩ := tk_bb h
  obtain ⟨e1, e2, e3⟩ := tk_eb h
  have := e3 (fun hk => hx ((tk_x0 h).mp hk))
  omega
theorem tk_adn {T : tk_T} {s lo hi : Int} (h : s ≤ T.2) (hn : tk_n T s lo hi) : s < tk_e T s := tk_adv h (fun hx => by have := (tk_x0 h).mpr hx; have := hn.1; omega)
theorem tk_se {T : tk_T} {s : Int} (h : s ≤ T.2) : s ≤ tk_e T s ∧ tk_e T s ≤ T.2 := by
  obtain ⟨b1, b2⟩ := tk_bb h
  obtain ⟨e1, e2, e3⟩ := tk_eb h
  omega
/-- texts: by their letters backwards -/
def tk_cd : List Int → Int
  | [] => 0
  | c :: cs => tk_cd cs * 32 + (c - 96)
abbrev tk_al (l : List Int) : Prop := ∀ c ∈ l, 97 ≤ c ∧ c ≤ 122
theorem tk_cd_nn : ∀ {l : List Int}, tk_al l → 0 ≤ tk_cd l
  | [], _ => Int.le_refl _
  | c :: cs, h => by
    have h1 := tk_cd_nn (l := cs) (fun x hx => h x (List.mem_cons_of_mem _ hx))
    have h2 := h c List.mem_cons_self
    simp only [tk_cd]; omega
theorem tk_cd_inj : ∀ {l m : List Int}, tk_al l → tk_al m → tk_cd l = tk_cd m → l = m
  | [], [], _, _, _ => rfl
  | [], c :: cs, _, h, e => by
    have h1 := tk_cd_nn (l := cs) (fun x hx => h x (List.mem_cons_of_mem _ hx))
    have h2 := h c List.mem_cons_self
    simp only [tk_cd] at e; omega
  | c :: cs, [], h, _, e => by
    have h1 := tk_cd_nn (l := cs) (fun x hx => h x (List.mem_cons_of_mem _ hx))
    have h2 := h c List.mem_cons_self
    simp only [tk_cd] at e; omega
  | c :: cs, b :: bs, h, g, e => by
    have h2 := h c List.mem_cons_self
    have g2 := g b List.mem_cons_self
    simp only [tk_cd] at e
    have e1 : c = b := by omega
    have e2 : tk_cd cs = tk_cd bs := by omega
    rw [e1, tk_cd_inj (fun x hx => h x (List.mem_cons_of_mem _ hx)) (fun x hx => g x (List.mem_cons_of_mem _ hx)) e2]
def tk_rv (P : Int → Int) (b : Int) (n : Nat) : List Int := (List.range n).map (fun i : Nat => P (b + (i : Int)))
theorem tk_rv_s (P : Int → Int) (b : Int) (n : Nat) : tk_rv P b (n + 1) = tk_rv P b n ++ [P (b + (n : Int))] := by
  unfold tk_rv; rw [List.range_succ, List.map_append]; rfl
theorem tk_wv_cd {P : Int → Int} {b : Int} : ∀ n, n ≤ 10 → tk_wv P b n = tk_cd (tk_rv P b n).reverse
  | 0, _ => rfl
  | n + 1, h => by
    rw [tk_rv_s, List.reverse_append]
    show (if n < 10 then tk_wv P b n * 32 + P (b + (n : Int)) - 96 else -1) = tk_cd (P (b + (n : Int)) :: (tk_rv P b n).reverse)
    rw [if_pos (by omega), tk_wv_cd n (by omega)]
    simp only [tk_cd]; omega
theorem tk_wv_m {P : Int → Int} {b : Int} : ∀ n, 10 < n → tk_wv P b n = -1
  | 0, h => by omega
  | n + 1, h => by
    show (if n < 10 then tk_wv P b n * 32 + P (b + (n : Int)) - 96 else -1) = -1
    rw [if_neg (by omega)]
theorem tk_x_len (T : tk_T) (s : Int) : (tk_x T s).length = tk_len T s := by unfold tk_x; rw [List.length_map, List.length_range]
theorem tk_x_all {T : tk_T} {s : Int} (h : s ≤ T.2) (hk : tk_k T s = 1) : tk_al (tk_x T s) := by
  obtain ⟨b1, b2⟩ := tk_bb h
  obtain ⟨e1, e2, e3⟩ := tk_eb h
  intro c hc
  unfold tk_x at hc
  rw [List.mem_map] at hc
  obtain ⟨i, hi, rfl⟩ := hc
  rw [List.mem_range] at hi
  unfold tk_len at hi
  have he : tk_e T s = tk_to (fun i => tk_sm (T.1 i)) T.2 (tk_b T s) := by unfold tk_e; rw [if_neg (by omega), if_pos hk]
  have := tk_to_all (p := fun i => tk_sm (T.1 i)) b2 (tk_b T s + (i : Int)) (by omega) (by omega)
  exact of_decide_eq_true this
theorem tk_x_hd {T : tk_T} {s : Int} {c : Int} {cs : List Int} (h : s ≤ T.2) (hx : tk_x T s = c :: cs) : tk_k T s ≠ 0 ∧ T.1 (tk_b T s) = c := by
  have hk : tk_k T s ≠ 0 := fun e => by rw [(tk_x0 h).mp e] at hx; cases hx
  refine ⟨hk, ?_⟩
  have := (tk_eb h).2.2 hk
  have h0 : 0 < tk_len T s := by unfold tk_len; omega
  have e : (tk_x T s)[0]? = some c := by rw [hx]; rfl
  unfold tk_x at e
  rw [List.getElem?_map, List.getElem?_range h0] at e
  have := Option.some.inj e
  simpa using this
/-- a word by its code -/
theorem tk_word {T : tk_T} {s : Int} (h : s ≤ T.2) {t : List Int} (ht : tk_al t) (hn : t ≠ []) (hl : t.length ≤ 10) {w : Int} (hw : tk_cd t.reverse = w) : (tk_k T s = 1 ∧ tk_w T s = w) ↔ tk_x T s = t := by
  have wv : tk_k T s = 1 → tk_w T s = tk_wv T.1 (tk_b T s) (tk_len T s) := fun hk => by unfold tk_w; rw [if_neg (by omega), if_pos hk]
  have htr : tk_al t.reverse := fun c hc => ht c (List.mem_reverse.mp hc)
  constructor
  · rintro ⟨hk, e⟩
    rw [wv hk] at e
    by_cases hle : tk_len T s ≤ 10
    · rw [tk_wv_cd _ hle, ← hw] at e
      have hal := tk_x_all h hk
      have := tk_cd_inj (l := (tk_x T s).reverse) (m := t.reverse) (fun c hc => hal c (List.mem_reverse.mp hc)) htr e
      exact List.reverse_inj.mp this
    · rw [tk_wv_m _ (by omega)] at e
      have := tk_cd_nn htr
      omega
  · intro e
    obtain ⟨c, cs, rfl⟩ := List.exists_cons_of_ne_nil hn
    obtain ⟨k0, hc⟩ := tk_x_hd h e
    have hcl := ht c List.mem_cons_self
    have hk : tk_k T s = 1 := by
      rw [tk_k1]
      refine ⟨?_, by rw [hc]; exact decide_eq_true hcl⟩
      have := mt tk_k0.mpr k0
      omega
    refine ⟨hk, ?_⟩
    have hlen : tk_len T s ≤ 10 := by rw [← tk_x_len, e]; exact hl
    rw [wv hk, tk_wv_cd _ hlen, ← hw, ← e]; rfl
/-- a sign -/
theorem tk_sign {T : tk_T} {s : Int} (h : s ≤ T.2) {c : Int} (h1 : tk_sm c = false) (h2 : tk_dg c = false) : (tk_k T s = 3 ∧ tk_w T s = c) ↔ tk_x T s = [c] := by
  constructor
  · rintro ⟨hk, e⟩
    have e1 : T.1 (tk_b T s) = c := by unfold tk_w at e; rw [if_pos hk] at e; exact e
    have e2 : tk_len T s = 1 := by
      have : tk_e T s = tk_b T s + 1 := by unfold tk_e; rw [if_neg (by omega), if_neg (by omega), if_neg (by omega)]
      unfold tk_len; omega
    unfold tk_x; rw [e2]
    show [T.1 (tk_b T s + ((0 : Nat) : Int))] = [c]
    rw [← e1]; simp
  · intro e
    obtain ⟨k0, hc⟩ := tk_x_hd h e
    have hk : tk_k T s = 3 := by
      rw [tk_k3, hc]
      have := mt tk_k0.mpr k0
      exact ⟨by omega, h1, h2⟩
    exact ⟨hk, by unfold tk_w; rw [if_pos hk]; exact hc⟩
/-- digits -/
theorem tk_dv_b {P : Int → Int} {b : Int} : ∀ n : Nat, (∀ i : Nat, i < n → 48 ≤ P (b + (i : Int)) ∧ P (b + (i : Int)) ≤ 57) → 0 ≤ tk_dv P b n ∧ tk_dv P b n ≤ 10000009
  | 0, _ => by simp only [tk_dv]; omega
  | n + 1, h => by
    have h1 := tk_dv_b n (fun i hi => h i (by omega))
    have h2 := h n (by omega)
    simp only [tk_dv]; split <;> omega
theorem tk_dg_all {T : tk_T} {s : Int} (h : s ≤ T.2) (hk : tk_k T s = 2) : ∀ i : Nat, i < tk_len T s → 48 ≤ T.1 (tk_b T s + (i : Int)) ∧ T.1 (tk_b T s + (i : Int)) ≤ 57 := by
  obtain ⟨b1, b2⟩ := tk_bb h
  intro i hi
  unfold tk_len at hi
  have he : tk_e T s = tk_to (fun i => tk_dg (T.1 i)) T.2 (tk_b T s) := by unfold tk_e; rw [if_neg (by omega), if_neg (by omega), if_pos hk]
  have := tk_to_all (p := fun i => tk_dg (T.1 i)) b2 (tk_b T s + (i : Int)) (by omega) (by omega)
  exact of_decide_eq_true this
theorem tk_w2 {T : tk_T} {s : Int} (h : s ≤ T.2) (hk : tk_k T s = 2) : 0 ≤ tk_w T s ∧ tk_w T s ≤ 10000009 := by
  unfold tk_w; rw [if_neg (by omega), if_neg (by omega), if_pos hk]
  exact tk_dv_b _ (tk_dg_all h hk)
theorem tk_c_n {T : tk_T} {s lo hi : Int} (h : s ≤ T.2) (h0 : 0 ≤ lo) (h1 : hi ≤ 1000) : (tk_k T s = 2 ∧ lo ≤ tk_c T s ∧ tk_c T s ≤ hi) ↔ tk_n T s lo hi := by
  unfold tk_n
  constructor
  · rintro ⟨a, b, c⟩
    unfold tk_c at b c; rw [if_pos a] at b c
    exact ⟨a, by omega, by omega⟩
  · rintro ⟨a, b, c⟩
    unfold tk_c; rw [if_pos a]
    exact ⟨a, by omega, by omega⟩
theorem tk_c_v {T : tk_T} {s lo hi : Int} (h1 : hi ≤ 1000) (hn : tk_n T s lo hi) : tk_c T s = tk_w T s := by
  unfold tk_c; rw [if_pos hn.1]; have := hn.2.2; omega
theorem tk_c_b {T : tk_T} {s : Int} (h : s ≤ T.2) : 0 ≤ tk_c T s ∧ tk_c T s ≤ 1001 := by
  unfold tk_c
  split
  · have := tk_w2 h (by assumption); omega
  · omega
