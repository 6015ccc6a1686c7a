/-! CODE OF THE CLASS: what a stretch of it does on the stack -/
def nm_bd (v : Int) : Prop := -1000000000 ≤ v ∧ v ≤ 1000000000
/-- what no sum comes to -/
def nm_enc : Option Int → Int
  | none => -2147483648
  | some v => v
/-- two joined; the numbers of the operators are the class's -/
def nm_jv (op a b : Int) : Int := if op = 6 then a + b else if op = 7 then a - b else if op = 8 then a * b else if op = 9 then a.tdiv b else if op = 10 then a.tmod b else if op = 11 then (if a < b then 1 else 0) else if op = 12 then (if b < a then 1 else 0) else (if a = b then 1 else 0)
def nm_jn (op a b : Int) : Option Int := if (op = 9 ∨ op = 10) ∧ b = 0 then none else if 1000000000 < nm_jv op a b ∨ nm_jv op a b < -1000000000 then none else some (nm_jv op a b)
def nm_bin (op : Int) (f g : (Int → Int) → Option Int) : (Int → Int) → Option Int := fun e => match f e with
  | none => none
  | some a => match g e with
    | none => none
    | some b => nm_jn op a b
def nm_not (f : (Int → Int) → Option Int) : (Int → Int) → Option Int := fun e => match f e with
  | none => none
  | some a => some (1 - a)
/-- "and" (z = 0), "or" (z = 1): settled if the first one is z -/
def nm_jmp (z : Int) (f g : (Int → Int) → Option Int) : (Int → Int) → Option Int := fun e => match f e with
  | none => none
  | some a => if a = z then some a else g e
theorem nm_lc0 {a b : Int} : (am_lcmp a b ≠ 0) ↔ a ≠ b := by unfold am_lcmp; split; · omega
                                                             · split <;> omega
theorem nm_lc1 {a b : Int} : (0 ≤ am_lcmp a b) ↔ b ≤ a := by unfold am_lcmp; split; · omega
                                                             · split <;> omega
theorem nm_lc2 {a b : Int} : (am_lcmp a b ≤ 0) ↔ a ≤ b := by unfold am_lcmp; split; · omega
                                                             · split <;> omega
theorem nm_lc3 {a b : Int} : (0 < am_lcmp a b) ↔ b < a := by unfold am_lcmp; split; · omega
                                                             · split <;> omega
theorem nm_mulb {a b : Int} (ha : nm_bd a) (hb : nm_bd b) : -1000000000000000000 ≤ a * b ∧ a * b ≤ 1000000000000000000 := by
  have h : (a * b).natAbs ≤ 1000000000 * 1000000000 := by
    rw [Int.natAbs_mul]
    exact Nat.mul_le_mul (by have := ha.1; have := ha.2; omega) (by have := hb.1; have := hb.2; omega)
  omega
theorem nm_divb {a b : Int} (ha : nm_bd a) : nm_bd (a.tdiv b) := by
  have h : (a.tdiv b).natAbs ≤ a.natAbs := by rw [Int.natAbs_tdiv]; exact Nat.div_le_self _ _
  have := ha.1; have := ha.2
  exact ⟨by omega, by omega⟩
theorem nm_modb {a b : Int} (ha : nm_bd a) : nm_bd (a.tmod b) := by
  have h : (a.tmod b).natAbs ≤ a.natAbs := by rw [Int.natAbs_tmod]; exact Nat.mod_le _ _
  have := ha.1; have := ha.2
  exact ⟨by omega, by omega⟩
theorem nmc_70 {d : Nat} {op a b : Int} {M : am_M} {Q : List am_V → am_M → Prop} (ha : nm_bd a) (hb : nm_bd b) (hL : nm_Lay M) (hQ : Q [(0, nm_enc (nm_jn op a b))] M) : am_CL d 70 [(0, op), (1, a), (1, b)] M Q := by
  have e1 := ha.1; have e2 := ha.2; have e3 := hb.1; have e4 := hb.2
  have hmul := nm_mulb ha hb
  have hdiv := nm_divb (b := b) ha
  have hmod := nm_modb (b := b) ha
  have end149 : ∀ v : Int, (¬ ((op = 9 ∨ op = 10) ∧ b = 0)) → v = nm_jv op a b → -9223372036854775808 ≤ v → am_WP d am_c70 149 [(0, op), (1, a), (9, 0), (1, b), (9, 0), (1, v), (9, 0)] [] M Q := by
    intro v hz hv _
    unfold nm_jn at hQ
    rw [if_neg hz, ← hv] at hQ
    refine h_70_149 hL ⟨fun h => ?_, fun h => ⟨fun h2 => ?_, fun h2 => ?_⟩⟩
    · rw [nm_lc3] at h; rw [if_pos (.inl h)] at hQ; exact hQ
    · rw [nm_lc3] at h; rw [nm_lc1] at h2; rw [if_neg (by omega)] at hQ; rw [am_w_id (by omega) (by omega)]; exact hQ
    · rw [nm_lc3] at h; rw [nm_lc1] at h2; rw [if_pos (by omega)] at hQ; exact hQ
  have from21 : (¬ ((op = 9 ∨ op = 10) ∧ b = 0)) → am_WP d am_c70 21 [(0, op), (1, a), (9, 0), (1, b), (9, 0), (9, 0), (9, 0)] [] M Q := by
    intro hz
    refine h_70_21 hL ⟨fun h => ?_, fun h6 => ⟨fun h => ?_, fun h7 => ⟨fun h => ?_, fun h8 => ⟨fun h => ?_, fun h9 => ⟨fun h => ?_, fun h10 => ⟨fun h => ⟨fun c => ?_, fun c => ?_⟩, fun h11 => ⟨fun h => ⟨fun c => ?_, fun c => ?_⟩, fun h12 => ⟨fun c => ?_, fun c => ?_⟩⟩⟩⟩⟩⟩⟩⟩
    · rw [am_wl_id (by omega) (by omega)]; exact end149 _ hz (by unfold nm_jv; rw [if_pos h]) (by omega)
    · rw [am_wl_id (by omega) (by omega)]; exact end149 _ hz (by unfold nm_jv; rw [if_neg h6, if_pos h]) (by omega)
    · rw [am_wl_id (by omega) (by omega)]; exact end149 _ hz (by unfold nm_jv; rw [if_neg h6, if_neg h7, if_pos h]) (by omega)
    · refine ⟨fun hb0 => hz ⟨.inl h, hb0⟩, ?_⟩
      have := hdiv.1; have := hdiv.2
      rw [am_wl_id (by omega) (by omega)]; exact end149 _ hz (by unfold nm_jv; rw [if_neg h6, if_neg h7, if_neg h8, if_pos h]) (by omega)
    · refine ⟨fun hb0 => hz ⟨.inr h, hb0⟩, ?_⟩
      have := hmod.1; have := hmod.2
      exact end149 _ hz (by unfold nm_jv; rw [if_neg h6, if_neg h7, if_neg h8, if_neg h9, if_pos h]) (by omega)
    · rw [nm_lc1] at c; exact end149 _ hz (by unfold nm_jv; rw [if_neg h6, if_neg h7, if_neg h8, if_neg h9, if_neg h10, if_pos h, if_neg (by omega)]) (by omega)
    · rw [nm_lc1] at c; exact end149 _ hz (by unfold nm_jv; rw [if_neg h6, if_neg h7, if_neg h8, if_neg h9, if_neg h10, if_pos h, if_pos (by omega)]) (by omega)
    · rw [nm_lc2] at c; exact end149 _ hz (by unfold nm_jv; rw [if_neg h6, if_neg h7, if_neg h8, if_neg h9, if_neg h10, if_neg h11, if_pos h, if_neg (by omega)]) (by omega)
    · rw [nm_lc2] at c; exact end149 _ hz (by unfold nm_jv; rw [if_neg h6, if_neg h7, if_neg h8, if_neg h9, if_neg h10, if_neg h11, if_pos h, if_pos (by omega)]) (by omega)
    · rw [nm_lc0] at c; exact end149 _ hz (by unfold nm_jv; rw [if_neg h6, if_neg h7, if_neg h8, if_neg h9, if_neg h10, if_neg h11, if_neg h12, if_neg c]) (by omega)
    · rw [nm_lc0] at c; exact end149 _ hz (by unfold nm_jv; rw [if_neg h6, if_neg h7, if_neg h8, if_neg h9, if_neg h10, if_neg h11, if_neg h12, if_pos (by omega)]) (by omega)
  have from12 : op = 9 ∨ op = 10 → am_WP d am_c70 12 [(0, op), (1, a), (9, 0), (1, b), (9, 0), (9, 0), (9, 0)] [] M Q := by
    intro ho
    refine h_70_12 hL ⟨fun c => ?_, fun c => ?_⟩
    · rw [nm_lc0] at c; exact from21 (fun z => c z.2)
    · rw [nm_lc0] at c; unfold nm_jn at hQ; rw [if_pos ⟨ho, by omega⟩] at hQ; exact hQ
  exact h_70_0 hL ⟨fun h => from12 (.inl h), fun h => ⟨fun h' => from21 (fun z => z.1.elim h h'), fun h' => from12 (.inr (by omega))⟩⟩
