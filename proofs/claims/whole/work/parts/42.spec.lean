/-! THE PICTURE: one state that both sides stand for -/
theorem nm_dn {n : Nat} {P : Nat → Prop} (h : ∀ k, k ≤ n → (k < n → P (k + 1)) → P k) : ∀ k, k ≤ n → P k := by
  intro k hk
  obtain ⟨j, hj⟩ : ∃ j, n = k + j := ⟨n - k, by omega⟩
  induction j generalizing k with
  | zero => exact h k hk (fun h' => absurd h' (by omega))
  | succ j ih => exact h k hk (fun h' => ih (k + 1) (by omega) (by omega))
theorem nm_wk {k : Nat} (hk : k < 2147483647) : am_w ((k : Int) + 1) = ((k + 1 : Nat) : Int) := by rw [am_w_id (by omega) (by omega)]; omega
/-- night, line, silver, stock -/
abbrev nm_W : Type := Int × List Int × (Int → Int) × (Int → Int)
/-- a law: clauses, of each its kind and what it tells, or that it tells nothing -/
abbrev nm_T : Type := List (Int × ((Int → Int) → Option Int))
def nm_told : nm_T → Int → (Int → Int) → Option Int
  | [], _, _ => none
  | c :: cs, k, e => match nm_told cs k e with
    | some v => some v
    | none => if c.1 = k then c.2 e else none
def nm_cut (v lo hi : Int) : Int := if v < lo then lo else if hi < v then hi else v
/-- what a law's words stand for -/
def nm_env (S : Int → Int) (W : nm_W) (m p h q : Int) : Int → Int := fun i =>
  if i = 0 then m else if i = 1 then p else if i = 2 then h else if i = 3 then q
  else if i = 4 then (if m < 0 then -1 else S (65 + m)) else if i = 5 then (if m < 0 then -1 else W.2.2.1 m)
  else if i = 6 then W.1 else S 6
def nm_made (S : Int → Int) (W : nm_W) (T : nm_T) (m p h q : Int) : Int := match nm_told T 0 (nm_env S W m p h q) with
  | none => (q + S (65 + m)) % 8
  | some v => nm_cut v 0 7
def nm_wear (S : Int → Int) (W : nm_W) (T : nm_T) (m p : Int) : Int := match nm_told T 1 (nm_env S W m p (-1) (-1)) with
  | none => 1
  | some v => nm_cut v 0 9
def nm_pay (S : Int → Int) (W : nm_W) (T : nm_T) (q : Int) : Int := match nm_told T 2 (nm_env S W (-1) (-1) (-1) q) with
  | none => 1
  | some v => nm_cut v 0 99
def nm_bar (S : Int → Int) (W : nm_W) (T : nm_T) (m p : Int) : Bool := (nm_told T 3 (nm_env S W m p (-1) (-1))).isSome
def nm_seen (S : Int → Int) (m p h : Int) : Int := S (35 + 5 * m + S (29 + m) - 1 - (h - p - 1) % S (29 + m))
def nm_mk (S : Int → Int) (W : nm_W) (T : nm_T) (m p h : Int) : Int := nm_made S W T m p h (nm_seen S m p h)
/-- the law of a number -/
def nm_lw (S : Int → Int) (D : Int → nm_T) (f : Int) : nm_T := if 0 ≤ f ∧ f < S 2 then D f else []
abbrev nm_lwf (S : Int → Int) (D : Int → nm_T) : nm_T := nm_lw S D (S 3)
/-- where a mirror hangs -/
def nm_ix (l : List Int) (m : Int) : Int := if m ∈ l then (l.idxOf m : Int) else -1
/-- what is made from an hour on, n hours long -/
def nm_hs (f : Int → Int) (lo : Int) (n : Nat) : List Int := (List.range n).map (fun k : Nat => f (lo + (k : Int)))
/-- what the first n places make by the hour H -/
def nm_ps (S : Int → Int) (W : nm_W) (T : nm_T) (H : Int) (n : Nat) : List Int := (List.range n).flatMap (fun p : Nat => nm_hs (fun h => nm_mk S W T (W.2.1.getD p 0) (p : Int) h) ((p : Int) + 1) (H - (p : Int)).toNat)
def nm_all (S : Int → Int) (W : nm_W) (T : nm_T) (H : Int) : List Int := nm_ps S W T H W.2.1.length
/-- the first half of a night -/
def nm_work (S : Int → Int) (T : nm_T) (W : nm_W) : nm_W := (W.1, W.2.1, W.2.2.1, fun q => min 99 (W.2.2.2 q + ((nm_all S W T (S 7)).count q : Int)))
/-- silver behind the wearing of the first n places -/
def nm_ws (S : Int → Int) (T : nm_T) (W : nm_W) (n : Nat) : Int → Int := fun m => if m ∈ W.2.1.take n then max 0 (W.2.2.1 m - nm_wear S W T m (nm_ix W.2.1 m)) else W.2.2.1 m
/-- the second half -/
def nm_wearW (S : Int → Int) (T : nm_T) (W : nm_W) : nm_W := (W.1 + 1, W.2.1.filter (fun m => decide (0 < nm_ws S T W W.2.1.length m)), nm_ws S T W W.2.1.length, W.2.2.2)
def nm_pass (S : Int → Int) (T : nm_T) (W : nm_W) : nm_W := nm_wearW S T (nm_work S T W)
def nm_hangW (W : nm_W) (m : Int) : nm_W := (W.1, W.2.1 ++ [m], W.2.2)
def nm_downW (W : nm_W) (p : Nat) : nm_W := (W.1, W.2.1.eraseIdx p, W.2.2)
/-- what keeps to its bounds -/
def nm_okW (n : Int) (W : nm_W) : Prop := 0 ≤ W.1 ∧ W.1 ≤ 1999 ∧ W.2.1.Nodup ∧ (∀ m ∈ W.2.1, 0 ≤ m ∧ m < n) ∧ (∀ m, 0 ≤ m → m < 6 → 0 ≤ W.2.2.1 m ∧ W.2.2.1 m ≤ 30) ∧ (∀ p, 0 ≤ p → p < 8 → 0 ≤ W.2.2.2 p ∧ W.2.2.2 p ≤ 99)
def nm_okS (S : Int → Int) : Prop :=
  (0 ≤ S 0 ∧ S 0 ≤ 6) ∧ (0 ≤ S 1 ∧ S 1 ≤ 8) ∧ (0 ≤ S 2 ∧ S 2 ≤ 6) ∧ (-1 ≤ S 3 ∧ S 3 < S 2) ∧ (0 ≤ S 5 ∧ S 5 ≤ 10) ∧ (0 ≤ S 6 ∧ S 6 ≤ 9) ∧ (1 ≤ S 7 ∧ S 7 ≤ 8) ∧
  (∀ m, 0 ≤ m → m < S 0 → 1 ≤ S (29 + m) ∧ S (29 + m) ≤ 5) ∧ (∀ k, 0 ≤ k → k < 30 → 0 ≤ S (35 + k) ∧ S (35 + k) ≤ 7) ∧ (∀ m, 0 ≤ m → m < 6 → 0 ≤ S (65 + m) ∧ S (65 + m) ≤ 7) ∧
  (∀ m, 0 ≤ m → m < 6 → 0 ≤ S (71 + m) ∧ S (71 + m) ≤ 63) ∧ (∀ p, 0 ≤ p → p < 8 → 0 ≤ S (77 + p) ∧ S (77 + p) ≤ 3) ∧
  (∀ i, 0 ≤ i → i < S 1 → (1 ≤ S (85 + 3 * i) ∧ S (85 + 3 * i) ≤ 8) ∧ (0 ≤ S (86 + 3 * i) ∧ S (86 + 3 * i) ≤ 7) ∧ (0 ≤ S (87 + 3 * i) ∧ S (87 + 3 * i) ≤ 1))
/-- a Works of the class -/
def nm_CW (M : am_M) (w : Int) (W : nm_W) : Prop := am_gt M w 0 = W.1 ∧ am_gt M w 1 = (W.2.1.length : Int) ∧ W.2.1.length ≤ 6 ∧ (∀ p : Nat, p < W.2.1.length → am_gt M (w + 1) (p : Int) = W.2.1.getD p 0) ∧ (∀ m, 0 ≤ m → m < 6 → am_gt M (w + 2) m = W.2.2.1 m) ∧ (∀ p, 0 ≤ p → p < 8 → am_gt M (w + 3) p = W.2.2.2 p)
/-- the rest of a State of the class, the texts aside -/
def nm_CS (M : am_M) (b : Int) (S : Int → Int) : Prop :=
  am_gt M b 0 = S 0 ∧ am_gt M b 6 = S 1 ∧ am_gt M b 13 = S 2 ∧ am_gt M b 15 = S 3 ∧ am_gt M b 10 = S 5 ∧ am_gt M b 11 = S 6 ∧ am_gt M b 12 = S 7 ∧
  (∀ m, 0 ≤ m → m < 6 → am_gt M (b + 1) m = S (29 + m)) ∧ (∀ k, 0 ≤ k → k < 30 → am_gt M (b + 2) k = S (35 + k)) ∧ (∀ m, 0 ≤ m → m < 6 → am_gt M (b + 3) m = S (65 + m)) ∧
  (∀ m, 0 ≤ m → m < 6 → am_gt M (b + 4) m = S (71 + m)) ∧ (∀ p, 0 ≤ p → p < 8 → am_gt M (b + 5) p = S (77 + p)) ∧
  (∀ i, 0 ≤ i → i < 8 → am_gt M (b + 6) i = S (85 + 3 * i)) ∧ (∀ i, 0 ≤ i → i < 8 → am_gt M (b + 7) i = S (86 + 3 * i)) ∧ (∀ i, 0 ≤ i → i < 8 → am_gt M (b + 8) i = S (87 + 3 * i))
/-- the slots of a State that its numbers lie in -/
def nm_Sg (b : Int) : nm_Rg := [(b, 0, 1), (b, 6, 7), (b, 10, 14), (b, 15, 16), (b + 1, 0, 6), (b + 2, 0, 30), (b + 3, 0, 6), (b + 4, 0, 6), (b + 5, 0, 8), (b + 6, 0, 8), (b + 7, 0, 8), (b + 8, 0, 8)]
/-- frames that keep a part -/
theorem nm_in_c {f : nm_Rg} {a i lo hi : Int} (hq : (a, lo, hi) ∈ f) (h2 : lo ≤ i) (h3 : i < hi) : nm_in f a i = true := nm_in_mem hq rfl h2 h3
theorem nm_CW_kp {M M' : am_M} {w : Int} {W : nm_W} (h : nm_CW M w W) (hk : ∀ a i, nm_in (nm_Wg w) a i = true → am_gt M' a i = am_gt M a i) : nm_CW M' w W := by
  obtain ⟨h1, h2, h3, h4, h5, h6⟩ := h
  have m0 : ((w, 0, 2) : Int × Int × Int) ∈ nm_Wg w := by unfold nm_Wg; simp only [List.mem_cons, true_or]
  have m1 : ((w + 1, 0, 6) : Int × Int × Int) ∈ nm_Wg w := by unfold nm_Wg; simp only [List.mem_cons, true_or, or_true]
  have m2 : ((w + 2, 0, 6) : Int × Int × Int) ∈ nm_Wg w := by unfold nm_Wg; simp only [List.mem_cons, true_or, or_true]
  have m3 : ((w + 3, 0, 8) : Int × Int × Int) ∈ nm_Wg w := by unfold nm_Wg; simp only [List.mem_cons, true_or, or_true]
  refine ⟨?_, ?_, h3, fun p hp => ?_, fun m a b => ?_, fun p a b => ?_⟩
  · rw [hk w 0 (nm_in_c m0 (by decide) (by decide))]; exact h1
  · rw [hk w 1 (nm_in_c m0 (by decide) (by decide))]; exact h2
  · rw [hk (w + 1) p (nm_in_c m1 (by omega) (by omega))]; exact h4 p hp
  · rw [hk (w + 2) m (nm_in_c m2 a b)]; exact h5 m a b
  · rw [hk (w + 3) p (nm_in_c m3 a b)]; exact h6 p a b
theorem nm_CW_fr {n s : Int} {f : nm_Rg} {M M' : am_M} {w : Int} {W : nm_W} (h : nm_CW M w W) (hL : nm_Lay M) (hw : w ∈ nm_WL) (hF : nm_Fg n s f M M') (hd : nm_dj f (nm_Wg w) = true) : nm_CW M' w W := by
  refine nm_CW_kp h (fun a i hi => ?_)
  obtain ⟨q, hq, h1, h2, h3⟩ := nm_in_iff.mp hi
  have hb := nm_Wb hw
  refine nm_gt_frd hF hL ?_ hd hi
  simp only [nm_Wg, List.mem_cons, List.not_mem_nil, or_false] at hq
  rcases hq with rfl | rfl | rfl | rfl <;> simp only at h1 <;> omega
theorem nm_CS_fr {n s : Int} {f : nm_Rg} {M M' : am_M} {b : Int} {S : Int → Int} (h : nm_CS M b S) (hL : nm_Lay M) (hb : b + 8 < 247) (hF : nm_Fg n s f M M') (hd : nm_dj f (nm_Sg b) = true) : nm_CS M' b S := by
  obtain ⟨h1, h2, h3, h4, h5, h6, h7, h8, h9, h10, h11, h12, h13, h14, h15⟩ := h
  have kp : ∀ q ∈ nm_Sg b, ∀ i, q.2.1 ≤ i → i < q.2.2 → q.1 < 247 → am_gt M' q.1 i = am_gt M q.1 i := fun q hq i a c e => nm_gt_frd hF hL e hd (nm_in_mem hq rfl a c)
  simp only [nm_Sg, List.mem_cons, List.not_mem_nil, or_false, forall_eq_or_imp, forall_eq] at kp
  obtain ⟨k1, k2, k3, k4, k5, k6, k7, k8, k9, k10, k11, k12⟩ := kp
  refine ⟨?_, ?_, ?_, ?_, ?_, ?_, ?_, fun m a c => ?_, fun m a c => ?_, fun m a c => ?_, fun m a c => ?_, fun m a c => ?_, fun m a c => ?_, fun m a c => ?_, fun m a c => ?_⟩
  · rw [k1 0 (by decide) (by decide) (by omega)]; exact h1
  · rw [k2 6 (by decide) (by decide) (by omega)]; exact h2
  · rw [k3 13 (by decide) (by decide) (by omega)]; exact h3
  · rw [k4 15 (by decide) (by decide) (by omega)]; exact h4
  · rw [k3 10 (by decide) (by decide) (by omega)]; exact h5
  · rw [k3 11 (by decide) (by decide) (by omega)]; exact h6
  · rw [k3 12 (by decide) (by decide) (by omega)]; exact h7
  · rw [k5 m a c (by omega)]; exact h8 m a c
  · rw [k6 m a c (by omega)]; exact h9 m a c
  · rw [k7 m a c (by omega)]; exact h10 m a c
  · rw [k8 m a c (by omega)]; exact h11 m a c
  · rw [k9 m a c (by omega)]; exact h12 m a c
  · rw [k10 m a c (by omega)]; exact h13 m a c
  · rw [k11 m a c (by omega)]; exact h14 m a c
  · rw [k12 m a c (by omega)]; exact h15 m a c
theorem nm_ix_some {l : List Int} {m : Int} {k : Nat} (hk : k < l.length) (h : l.getD k 0 = m) (hj : ∀ j, j < k → l.getD j 0 ≠ m) : nm_ix l m = (k : Int) := by
  unfold nm_ix
  have hg : l.getD k 0 = l[k] := by rw [List.getD_eq_getElem?_getD, List.getElem?_eq_getElem hk]; rfl
  have hm : m ∈ l := by rw [← h, hg]; exact List.getElem_mem hk
  rw [if_pos hm]
  have hlt := List.idxOf_lt_length_of_mem hm
  have he : l[l.idxOf m] = m := List.getElem_idxOf hlt
  have h1 : ¬ l.idxOf m < k := by
    intro hlt'
    refine hj _ hlt' ?_
    rw [List.getD_eq_getElem?_getD, List.getElem?_eq_getElem hlt]; exact he
  have h2 : ¬ k < l.idxOf m := by
    intro hlt'
    have := List.not_of_lt_findIdx (p := (· == m)) (xs := l) (i := k) hlt'
    rw [hg] at h
    simp [h] at this
  omega
theorem nm_ix_none {l : List Int} {m : Int} (hj : ∀ j, j < l.length → l.getD j 0 ≠ m) : nm_ix l m = -1 := by
  unfold nm_ix
  rw [if_neg]
  intro hm
  obtain ⟨k, hk, h⟩ := List.getElem_of_mem hm
  refine hj k hk ?_
  rw [List.getD_eq_getElem?_getD, List.getElem?_eq_getElem hk]; exact h
theorem nm_ix_cases (l : List Int) (m : Int) : (nm_ix l m = -1 ∧ m ∉ l) ∨ ∃ k : Nat, k < l.length ∧ l.getD k 0 = m ∧ nm_ix l m = (k : Int) := by
  by_cases hm : m ∈ l
  · have hlt := List.idxOf_lt_length_of_mem hm
    refine .inr ⟨l.idxOf m, hlt, ?_, ?_⟩
    · rw [List.getD_eq_getElem?_getD, List.getElem?_eq_getElem hlt]; exact List.getElem_idxOf hlt
    · unfold nm_ix; rw [if_pos hm]
  · exact .inl ⟨by unfold nm_ix; rw [if_neg hm], hm⟩
theorem nm_g0 {w i : Int} (h : 0 ≤ i) (h' : i < 2) : nm_in (nm_Wg w) w i = true := nm_in_c (lo := 0) (hi := 2) (by unfold nm_Wg; simp only [List.mem_cons, true_or]) h h'
theorem nm_g1 {w i : Int} (h : 0 ≤ i) (h' : i < 6) : nm_in (nm_Wg w) (w + 1) i = true := nm_in_c (lo := 0) (hi := 6) (by unfold nm_Wg; simp only [List.mem_cons, true_or, or_true]) h h'
theorem nm_g2 {w i : Int} (h : 0 ≤ i) (h' : i < 6) : nm_in (nm_Wg w) (w + 2) i = true := nm_in_c (lo := 0) (hi := 6) (by unfold nm_Wg; simp only [List.mem_cons, true_or, or_true]) h h'
theorem nm_g3 {w i : Int} (h : 0 ≤ i) (h' : i < 8) : nm_in (nm_Wg w) (w + 3) i = true := nm_in_c (lo := 0) (hi := 8) (by unfold nm_Wg; simp only [List.mem_cons, true_or, or_true]) h h'
theorem nm_LayW {M M' : am_M} {w : Int} (hL : nm_Lay M) (hw : w ∈ nm_WL) (hF : nm_Fr (nm_Wg w) M M') : nm_Lay M' := nm_Lay_fr hL hF (nm_Wlk hw)
/-- a sum -/
def nm_sm (f : Int → Int) : Nat → Int
  | 0 => 0
  | k + 1 => nm_sm f k + f (k : Int)
theorem nm_sm_in {f : Int → Int} {b : Int} : ∀ {n : Nat}, (∀ i : Nat, i < n → 0 ≤ f (i : Int) ∧ f (i : Int) ≤ b) → 0 ≤ nm_sm f n ∧ nm_sm f n ≤ (n : Int) * b
  | 0, _ => by simp only [nm_sm]; omega
  | n + 1, h => by
    have h1 := nm_sm_in (n := n) (fun i hi => h i (by omega))
    have h2 := h n (by omega)
    simp only [nm_sm]
    have : ((n + 1 : Nat) : Int) * b = (n : Int) * b + b := by rw [Int.natCast_add, Int.add_mul]; simp
    omega
theorem nm_getD {l : List Int} {k : Nat} (hk : k < l.length) : l.getD k 0 = l[k] := by rw [List.getD_eq_getElem?_getD, List.getElem?_eq_getElem hk]; rfl
theorem nm_take1 {l : List Int} {k : Nat} (hk : k < l.length) : l.take (k + 1) = l.take k ++ [l.getD k 0] := by rw [nm_getD hk, List.take_append_getElem]
theorem nm_erase {l : List Int} {k p : Nat} : (l.eraseIdx k).getD p 0 = if p < k then l.getD p 0 else l.getD (p + 1) 0 := by
  rw [List.getD_eq_getElem?_getD, List.getElem?_eraseIdx]
  split <;> rw [List.getD_eq_getElem?_getD]
theorem nm_getD_mem {l : List Int} {k : Nat} (hk : k < l.length) : l.getD k 0 ∈ l := by rw [nm_getD hk]; exact List.getElem_mem hk
theorem nm_getD_end (l : List Int) (a : Int) : (l ++ [a]).getD l.length 0 = a := by rw [List.getD_eq_getElem?_getD, List.getElem?_concat_length]; rfl
theorem nm_getD_app {l r : List Int} {p : Nat} (h : p < l.length) : (l ++ r).getD p 0 = l.getD p 0 := by rw [List.getD_eq_getElem?_getD, List.getD_eq_getElem?_getD, List.getElem?_append_left h]
