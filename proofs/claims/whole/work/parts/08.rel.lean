/-! WHAT THE SMALL MACHINE'S STATE MEANS in the real one -/
def am_ad (Bz : Nat) (ext : Int → Nat) (a : Int) : Nat := if 0 ≤ a then Bz + a.toNat else ext a
def am_rr (Bz : Nat) (ext : Int → Nat) (v : Int) : Option Nat := if v = -1 then none else some (am_ad Bz ext v)
def am_rv (Bz : Nat) (ext : Int → Nat) (v : am_V) : Value := match v.1 with
  | 0 => .int (Int32.ofInt v.2)
  | 1 => .long (Int64.ofInt v.2)
  | _ => va_rf (am_rr Bz ext v.2)
theorem am_rv0 (Bz : Nat) (ext : Int → Nat) (x : Int) : am_rv Bz ext (0, x) = .int (Int32.ofInt x) := rfl
theorem am_rv1 (Bz : Nat) (ext : Int → Nat) (x : Int) : am_rv Bz ext (1, x) = .long (Int64.ofInt x) := rfl
theorem am_rv2 (Bz : Nat) (ext : Int → Nat) (x : Int) : am_rv Bz ext (2, x) = va_rf (am_rr Bz ext x) := rfl
theorem am_rv2p {Bz : Nat} {ext : Int → Nat} {x : Int} (h : 0 ≤ x) : am_rv Bz ext (2, x) = .ref (Bz + x.toNat) := by
  rw [am_rv2]
  unfold am_rr am_ad
  rw [if_neg (by omega), if_pos h]
  rfl
theorem am_rv2n {Bz : Nat} {ext : Int → Nat} {x : Int} (h : x < -1) : am_rv Bz ext (2, x) = .ref (ext x) := by
  rw [am_rv2]
  unfold am_rr am_ad
  rw [if_neg (by omega), if_neg (by omega)]
  rfl
/-- a value within its bits -/
def am_vk (v : am_V) : Prop := match v.1 with
  | 0 => am_i32 v.2
  | 1 => am_i64 v.2
  | 2 => True
  | _ => False
def am_LR (Bz : Nat) (ext : Int → Nat) (nL : Nat) (ls : List am_V) (lr : Array Slot) : Prop :=
  ls.length = nL ∧ lr.size = nL ∧ lv_wf lr ∧ ∀ (i : Nat) (v : am_V), ls[i]? = some v → v.1 ≠ 9 → am_vk v ∧ lr[i]? = some (.val (am_rv Bz ext v))
def am_SR (st : List am_V) : Prop := ∀ v ∈ st, am_vk v
theorem am_cat_of (Bz : Nat) (ext : Int → Nat) {v : am_V} (h : am_vk v) : (am_rv Bz ext v).category = am_cat v := by
  obtain ⟨t, x⟩ := v
  match t, h with
  | 0, _ => rfl
  | 1, _ => rfl
  | 2, _ =>
    show (va_rf (am_rr Bz ext x)).category = 1
    cases am_rr Bz ext x <;> rfl
/-- a cell -/
def am_re (cy : Nat → ClassId) (Bz : Nat) (ext : Int → Nat) (M : am_M) (a : Int) : va_E :=
  if am_kd M a < 100 then .inr (am_kd M a, (List.range (am_ln M a).toNat).map (fun (j : Nat) => am_rv Bz ext (am_tg (am_sk (am_kd M a) j), am_gt M a j)))
  else if am_kd M a = 101 then .inl (cy 101, (am_ln M a).toNat, .inr (.inl (fun (j : Nat) => Int64.ofInt (am_gt M a j))))
  else if 103 ≤ am_kd M a then .inl (cy (am_kd M a), (am_ln M a).toNat, .inr (.inr (.inr (.inr (fun (j : Nat) => am_rr Bz ext (am_gt M a j))))))
  else .inl (cy (am_kd M a), (am_ln M a).toNat, .inl (fun (j : Nat) => Int32.ofInt (am_gt M a j)))
def am_okv (k : Nat) (v : Int) : Prop := match k with
  | 0 => am_i32 v
  | 1 => am_i64 v
  | 3 => v = 0 ∨ v = 1
  | _ => True
/-- a memory as memories are: L, xs the script -/
def am_ok (L : Int) (xs : Int → Int) (M : am_M) : Prop :=
  0 ≤ M.1 ∧ 0 ≤ M.2.1 ∧ (∀ a, am_kd M a < 110 → 0 ≤ a ∧ a < M.1) ∧ (∀ a, 0 ≤ a → a < M.1 → am_kd M a < 9 ∨ (100 ≤ am_kd M a ∧ am_kd M a ≤ 105)) ∧
  (∀ a, am_kd M a < 100 → am_ln M a = (am_nf (am_kd M a) : Int)) ∧ (∀ a, 100 ≤ am_kd M a → am_kd M a < 110 → 0 ≤ am_ln M a ∧ am_ln M a ≤ 65536) ∧
  (∀ a i, am_kd M a < 110 → am_okv (am_sk (am_kd M a) i) (am_gt M a i)) ∧
  (∀ a, am_kd M a = 110 → a = -2) ∧ am_ln M (-2) = L ∧ (∀ i, am_gt M (-2) i = xs i) ∧
  (∀ a, am_kd M a = 111 → a ≤ -10 ∧ -49 < a) ∧ ∀ k : Nat, k < 39 → am_ln M (-10 - k) = ((am_tx.getD k []).length : Int) ∧ ∀ i : Nat, i < (am_tx.getD k []).length → am_gt M (-10 - k) i = (am_tx.getD k []).getD i 0
/-- all cells made here -/
def am_ws (cy : Nat → ClassId) (Bz : Nat) (ext : Int → Nat) (M : am_M) : va_W := (List.range M.1.toNat).map (fun (k : Nat) => (Bz + k, am_re cy Bz ext M k))
def am_MR (D : va_G) (cy : Nat → ClassId) (Bz : Nat) (ext : Int → Nat) (M : am_M) (H : Heap) : Prop := va_P D am_cls (am_ws cy Bz ext M) H
abbrev am_A (Bz : Nat) : Nat → Prop := fun q => Bz ≤ q
theorem am_ws_at {cy : Nat → ClassId} {Bz : Nat} {ext : Int → Nat} {M : am_M} {a : Int} (h0 : 0 ≤ a) (h1 : a < M.1) : (am_ws cy Bz ext M)[a.toNat]? = some (Bz + a.toNat, am_re cy Bz ext M a) := by
  unfold am_ws
  rw [List.getElem?_map, List.getElem?_range (by omega)]
  show some (Bz + a.toNat, am_re cy Bz ext M ((a.toNat : Nat) : Int)) = _
  rw [Int.toNat_of_nonneg h0]
theorem am_ws_D (cy : Nat → ClassId) (Bz : Nat) (ext : Int → Nat) (M : am_M) : va_D (am_A Bz) (am_ws cy Bz ext M) := by
  have key : ∀ (i : Nat) (q : Nat × va_E), (am_ws cy Bz ext M)[i]? = some q → q.1 = Bz + i := by
    intro i q h
    unfold am_ws at h
    rw [List.getElem?_map] at h
    cases hr : (List.range M.1.toNat)[i]? with
    | none => rw [hr] at h; cases h
    | some j =>
      rw [hr] at h
      cases h
      have := (List.getElem?_eq_some_iff.mp hr)
      obtain ⟨h1, h2⟩ := this
      rw [List.getElem_range] at h2
      show Bz + j = Bz + i
      omega
  refine ⟨fun i j x y hi hj hxy => ?_, fun k q hk => ?_⟩
  · have := key i x hi
    have := key j y hj
    omega
  · show Bz ≤ q.1
    have := key k q hk
    omega
theorem am_ws_set {cy : Nat → ClassId} {Bz : Nat} {ext : Int → Nat} {M M' : am_M} {a : Int} {e : va_E} (h0 : 0 ≤ a) (hz : M'.1 = M.1) (hb : ∀ b, b ≠ a → am_re cy Bz ext M' b = am_re cy Bz ext M b) (he : am_re cy Bz ext M' a = e) : (am_ws cy Bz ext M).set a.toNat (Bz + a.toNat, e) = am_ws cy Bz ext M' := by
  unfold am_ws
  rw [hz]
  refine List.ext_getElem? fun i => ?_
  rw [List.getElem?_set, List.getElem?_map, List.getElem?_map, List.length_map, List.length_range]
  by_cases hi : i < M.1.toNat
  · rw [List.getElem?_range hi]
    by_cases e1 : a.toNat = i
    · rw [if_pos e1, if_pos (by omega)]
      show _ = some (Bz + i, am_re cy Bz ext M' ((i : Nat) : Int))
      rw [← e1, Int.toNat_of_nonneg h0, he]
    · rw [if_neg e1]
      show some (Bz + i, am_re cy Bz ext M ((i : Nat) : Int)) = some (Bz + i, am_re cy Bz ext M' ((i : Nat) : Int))
      rw [hb i (by omega)]
  · rw [show (List.range M.1.toNat)[i]? = none from by rw [List.getElem?_eq_none_iff, List.length_range]; omega]
    split
    · rw [if_neg (by omega)]; rfl
    · rfl
theorem am_ws_push {cy : Nat → ClassId} {Bz : Nat} {ext : Int → Nat} {M M' : am_M} {e : va_E} (h0 : 0 ≤ M.1) (hz : M'.1 = M.1 + 1) (hb : ∀ b, b ≠ M.1 → am_re cy Bz ext M' b = am_re cy Bz ext M b) (he : am_re cy Bz ext M' M.1 = e) : am_ws cy Bz ext M ++ [(Bz + M.1.toNat, e)] = am_ws cy Bz ext M' := by
  unfold am_ws
  rw [hz, show (M.1 + 1).toNat = M.1.toNat + 1 by omega, List.range_succ, List.map_append]
  congr 1
  · refine List.map_congr_left fun k hk => ?_
    rw [hb k (by have := List.mem_range.mp hk; omega)]
  · show _ = [(Bz + M.1.toNat, am_re cy Bz ext M' ((M.1.toNat : Nat) : Int))]
    rw [Int.toNat_of_nonneg h0, he]
/-- where a new cell lies -/
theorem am_new_at {D : va_G} {cy : Nat → ClassId} {Bz : Nat} {ext : Int → Nat} {M : am_M} {H1 : Heap} {q : Nat} {e : va_E} (h0 : 0 ≤ M.1) (hP : va_P D am_cls (am_ws cy Bz ext M ++ [(q, e)]) H1) (hD : va_D (am_A Bz) (am_ws cy Bz ext M ++ [(q, e)])) (hz : H1.size ≤ Bz + M.1.toNat + 1) : q = Bz + M.1.toNat := by
  have hl : (am_ws cy Bz ext M).length = M.1.toNat := by unfold am_ws; rw [List.length_map, List.length_range]
  have hlast : (am_ws cy Bz ext M ++ [(q, e)])[M.1.toNat]? = some (q, e) := by
    rw [List.getElem?_append_right (by omega), hl, Nat.sub_self]; rfl
  have h1 : q < H1.size := (hP _ _ hlast).lt
  have h2 : Bz ≤ q := hD.2 _ _ hlast
  by_cases h3 : q < Bz + M.1.toNat
  · exfalso
    have h4 := am_ws_at (cy := cy) (Bz := Bz) (ext := ext) (M := M) (a := ((q - Bz : Nat) : Int)) (by omega) (by omega)
    have h5 : (am_ws cy Bz ext M ++ [(q, e)])[q - Bz]? = some (Bz + (q - Bz), am_re cy Bz ext M ((q - Bz : Nat) : Int)) := by
      rw [List.getElem?_append_left (by omega)]
      simpa using h4
    have := hD.1 _ _ _ _ hlast h5 (by show q = Bz + (q - Bz); omega)
    omega
  · omega
theorem am_re_st {cy : Nat → ClassId} {Bz : Nat} {ext : Int → Nat} {M : am_M} {a i v b : Int} (h : b ≠ a) : am_re cy Bz ext (am_st M a i v) b = am_re cy Bz ext M b := by
  have e : ∀ j, am_gt (am_st M a i v) b j = am_gt M b j := fun j => by
    show (if b = a ∧ j = i then v else M.2.2.2 b j) = M.2.2.2 b j
    rw [if_neg (fun q => h q.1)]
  have k : am_kd (am_st M a i v) b = am_kd M b := rfl
  have n : am_ln (am_st M a i v) b = am_ln M b := rfl
  unfold am_re
  simp only [e, k, n]
theorem am_st_self {M : am_M} {a i v : Int} : am_gt (am_st M a i v) a i = v := if_pos ⟨rfl, rfl⟩
theorem am_st_ne {M : am_M} {a i v b j : Int} (h : b ≠ a ∨ j ≠ i) : am_gt (am_st M a i v) b j = am_gt M b j := if_neg (fun q => h.elim (fun z => z q.1) (fun z => z q.2))
theorem am_kd_st (M : am_M) (a i v b : Int) : am_kd (am_st M a i v) b = am_kd M b := rfl
theorem am_ln_st (M : am_M) (a i v b : Int) : am_ln (am_st M a i v) b = am_ln M b := rfl
theorem am_ok.st {L : Int} {xs : Int → Int} {M : am_M} {a i v : Int} (h : am_ok L xs M) (hk : am_kd M a < 110) (hv : am_okv (am_sk (am_kd M a) i) v) : am_ok L xs (am_st M a i v) := by
  obtain ⟨h1, h2, h3, h4, h5, h6, h7, h8, h9, h10, h11, h12⟩ := h
  have ha := (h3 a hk).1
  refine ⟨h1, h2, h3, h4, h5, h6, fun b j hb => ?_, h8, h9, fun j => ?_, h11, fun k hk2 => ⟨(h12 k hk2).1, fun j hj => ?_⟩⟩
  · by_cases e : b = a ∧ j = i
    · obtain ⟨rfl, rfl⟩ := e
      rw [am_st_self]; exact hv
    · rw [am_st_ne (by omega)]
      exact h7 b j hb
  · rw [am_st_ne (Or.inl (by omega))]; exact h10 j
  · rw [am_st_ne (Or.inl (by omega))]; exact (h12 k hk2).2 j hj
