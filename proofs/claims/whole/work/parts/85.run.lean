/-! A RUN OF CODE THAT IS RECKONED OUT: what the constructors do to the memory, as a list -/
/-- a cell made (true, its place, its kind, its length, 0), a slot written (false, cell, 0, slot, value), the newest first -/
abbrev co_O : Type := List (Bool × Int × Nat × Int × Int)
abbrev co_S : Type := Int × Int × co_O
def co_tyf (f : Int → Nat × Int) : co_O → Int → Nat × Int
  | [], a => f a
  | (true, b, k, n, _) :: t, a => if a = b then (k, n) else co_tyf f t a
  | (false, _) :: t, a => co_tyf f t a
def co_gtf (f : Int → Int → Int) : co_O → Int → Int → Int
  | [], a, i => f a i
  | (true, b, k, _, _) :: t, a, i => if a = b then am_df k i else co_gtf f t a i
  | (false, b, _, j, v) :: t, a, i => if a = b ∧ i = j then v else co_gtf f t a i
def co_ap (M : am_M) (m : co_S) : am_M := (m.1, m.2.1, fun a => co_tyf M.2.2.1 m.2.2 a, fun a i => co_gtf M.2.2.2 m.2.2 a i)
theorem co_nw {M : am_M} {m : co_S} {k : Nat} {n : Int} : am_nw (co_ap M m) k n = co_ap M (m.1 + 1, m.2.1 + n, (true, m.1, k, n, 0) :: m.2.2) := rfl
theorem co_st {M : am_M} {m : co_S} {a i v : Int} : am_st (co_ap M m) a i v = co_ap M (m.1, m.2.1, (false, a, 0, i, v) :: m.2.2) := rfl
/-- what a cell is, if it is one of the new -/
def co_ty : co_O → Int → Option (Nat × Int)
  | [], _ => none
  | (true, b, k, n, _) :: t, a => if a = b then some (k, n) else co_ty t a
  | (false, _) :: t, a => co_ty t a
def co_gt : co_O → Int → Int → Option Int
  | [], _, _ => none
  | (true, b, k, _, _) :: t, a, i => if a = b then some (am_df k i) else co_gt t a i
  | (false, b, _, j, v) :: t, a, i => if a = b then (if i = j then some v else co_gt t a i) else co_gt t a i
theorem co_ty_eq {f : Int → Nat × Int} : ∀ {t : co_O} {a : Int} {q : Nat × Int}, co_ty t a = some q → co_tyf f t a = q
  | [], _, _, h => by cases h
  | (true, b, k, n, _) :: t, a, q, h => by
    unfold co_ty at h
    unfold co_tyf
    by_cases e : a = b
    · rw [if_pos e] at h ⊢; exact Option.some.inj h
    · rw [if_neg e] at h ⊢; exact co_ty_eq h
  | (false, _) :: t, a, q, h => by
    unfold co_ty at h
    unfold co_tyf
    exact co_ty_eq h
theorem co_gt_eq {f : Int → Int → Int} : ∀ {t : co_O} {a i v : Int}, co_gt t a i = some v → co_gtf f t a i = v
  | [], _, _, _, h => by cases h
  | (true, b, k, n, _) :: t, a, i, v, h => by
    unfold co_gt at h
    unfold co_gtf
    by_cases e : a = b
    · rw [if_pos e] at h ⊢; exact Option.some.inj h
    · rw [if_neg e] at h ⊢; exact co_gt_eq h
  | (false, b, _, j, w) :: t, a, i, v, h => by
    unfold co_gt at h
    unfold co_gtf
    by_cases e : a = b
    · rw [if_pos e] at h
      by_cases e2 : i = j
      · rw [if_pos e2] at h; rw [if_pos ⟨e, e2⟩]; exact Option.some.inj h
      · rw [if_neg e2] at h; rw [if_neg (fun c => e2 c.2)]; exact co_gt_eq h
    · rw [if_neg e] at h; rw [if_neg (fun c => e c.1)]; exact co_gt_eq h
/-- all that was written to a cell since it was made, and its kind -/
def co_row : co_O → Int → Option (List (Int × Int) × Nat)
  | [], _ => none
  | (true, b, k, _, _) :: t, a => if a = b then some ([], k) else co_row t a
  | (false, b, _, j, v) :: t, a => if a = b then (match co_row t a with | some (l, k) => some ((j, v) :: l, k) | none => none) else co_row t a
def co_rg (k : Nat) : List (Int × Int) → Int → Int
  | [], i => am_df k i
  | q :: l, i => if i = q.1 then q.2 else co_rg k l i
theorem co_row_eq {f : Int → Int → Int} : ∀ {t : co_O} {a : Int} {l : List (Int × Int)} {k : Nat}, co_row t a = some (l, k) → ∀ i, co_gtf f t a i = co_rg k l i
  | [], _, _, _, h, _ => by cases h
  | (true, b, k', n, _) :: t, a, l, k, h, i => by
    unfold co_row at h
    unfold co_gtf
    by_cases e : a = b
    · rw [if_pos e] at h ⊢
      cases h
      rfl
    · rw [if_neg e] at h ⊢; exact co_row_eq h i
  | (false, b, _, j, w) :: t, a, l, k, h, i => by
    unfold co_row at h
    unfold co_gtf
    by_cases e : a = b
    · rw [if_pos e] at h
      cases hr : co_row t a with
      | none => rw [hr] at h; cases h
      | some p =>
        obtain ⟨l', k'⟩ := p
        rw [hr] at h
        cases h
        unfold co_rg
        dsimp only
        by_cases e2 : i = j
        · rw [if_pos ⟨e, e2⟩, if_pos e2]
        · rw [if_neg (fun c => e2 c.2), if_neg e2]; exact co_row_eq hr i
    · rw [if_neg e] at h; rw [if_neg (fun c => e c.1)]; exact co_row_eq h i
/-- one instruction that goes on -/
def co_is (t : co_O) (a : Int) (k : Nat) : Bool := match co_ty t a with
  | some q => Nat.beq q.1 k
  | none => false
def co_in (t : co_O) (a : Int) (k : Nat) (i : Int) : Bool := match co_ty t a with
  | some q => Nat.beq q.1 k && (decide (0 ≤ i) && decide (i < q.2))
  | none => false
theorem co_is_kd {M : am_M} {m : co_S} {a : Int} {k : Nat} (h : co_is m.2.2 a k = true) : am_kd (co_ap M m) a = k := by
  unfold co_is at h
  split at h
  · rename_i q e
    show (co_tyf M.2.2.1 m.2.2 a).1 = k
    rw [co_ty_eq e]
    exact Nat.eq_of_beq_eq_true h
  · cases h
theorem co_in_kd {M : am_M} {m : co_S} {a : Int} {k : Nat} {i : Int} (h : co_in m.2.2 a k i = true) : am_kd (co_ap M m) a = k ∧ 0 ≤ i ∧ i < am_ln (co_ap M m) a := by
  unfold co_in at h
  split at h
  · rename_i q e
    rw [Bool.and_eq_true, Bool.and_eq_true] at h
    refine ⟨?_, of_decide_eq_true h.2.1, ?_⟩
    · show (co_tyf M.2.2.1 m.2.2 a).1 = k
      rw [co_ty_eq e]
      exact Nat.eq_of_beq_eq_true h.1
    · show i < (co_tyf M.2.2.1 m.2.2 a).2
      rw [co_ty_eq e]
      exact of_decide_eq_true h.2.2
  · cases h
abbrev co_R : Type := Nat × List am_V × List am_V × co_S
def co_stp (d : Nat) (ai : am_I) (pc : Nat) (ls st : List am_V) (m : co_S) : Option co_R := match ai.1 with
  | 0 => some (pc + 1, ls, (0, ai.2.1) :: st, m)
  | 1 => some (pc + 2, ls, (0, ai.2.1) :: st, m)
  | 2 => some (pc + 3, ls, (0, ai.2.1) :: st, m)
  | 4 => some (pc + 3, ls, (1, ai.2.1) :: st, m)
  | 11 => match ls.getD ai.2.2.1 (9, 0) with
    | (0, v) => some (pc + 1, ls, (0, v) :: st, m)
    | _ => none
  | 15 => match ls.getD ai.2.2.1 (9, 0) with
    | (2, v) => some (pc + 1, ls, (2, v) :: st, m)
    | _ => none
  | 17 => match st with
    | (0, v) :: s => some (pc + 1, am_sto ls ai.2.2.1 (0, v), s, m)
    | _ => none
  | 22 => match ls.getD ai.2.2.1 (9, 0) with
    | (0, v) => some (pc + 3, am_sto ls ai.2.2.1 (0, am_w (v + ai.2.1)), st, m)
    | _ => none
  | 23 => match st with
    | (0, v) :: s => some (pc + 1, ls, (0, v) :: (0, v) :: s, m)
    | (2, v) :: s => some (pc + 1, ls, (2, v) :: (2, v) :: s, m)
    | _ => none
  | 30 => match st with
    | (0, b) :: (0, a) :: s => some (pc + 1, ls, (0, am_w (a + b)) :: s, m)
    | _ => none
  | 51 => match st with
    | (0, b) :: (0, a) :: s => bif decide (ai.2.1 = 3) then (bif decide (b ≤ a) then some (ai.2.2.1, ls, s, m) else some (pc + 3, ls, s, m)) else none
    | _ => none
  | 52 => some (ai.2.2.1, ls, st, m)
  | 59 => match st with
    | (t, v) :: (2, a) :: s => bif Nat.beq t ai.2.1.toNat && co_is m.2.2 a ai.2.2.1 then some (pc + 3, ls, s, (m.1, m.2.1, (false, a, 0, (ai.2.2.2.1 : Int), v) :: m.2.2)) else none
    | _ => none
  | 60 => match st with
    | (2, a) :: s => bif co_is m.2.2 a ai.2.2.1 then (match co_gt m.2.2 a ai.2.2.2.1 with | some v => some (pc + 3, ls, (ai.2.1.toNat, v) :: s, m) | none => none) else none
    | _ => none
  | 61 => match st with
    | (t, v) :: (2, a) :: s => bif Nat.beq t ai.2.1.toNat && co_is m.2.2 a ai.2.2.1 then some (pc + 3, ls, s, (m.1, m.2.1, (false, a, 0, (ai.2.2.2.1 : Int), v) :: m.2.2)) else none
    | _ => none
  | 63 => match st with
    | (0, v) :: (0, i) :: (2, a) :: s => bif co_in m.2.2 a 100 i then some (pc + 1, ls, s, (m.1, m.2.1, (false, a, 0, i, v) :: m.2.2)) else none
    | _ => none
  | 65 => match st with
    | (1, v) :: (0, i) :: (2, a) :: s => bif co_in m.2.2 a 101 i then some (pc + 1, ls, s, (m.1, m.2.1, (false, a, 0, i, v) :: m.2.2)) else none
    | _ => none
  | 69 => match st with
    | (2, v) :: (0, i) :: (2, a) :: s => bif co_in m.2.2 a ai.2.2.1 i && co_is m.2.2 v ai.2.2.2.1 then some (pc + 1, ls, s, (m.1, m.2.1, (false, a, 0, i, v) :: m.2.2)) else none
    | _ => none
  | 71 => some (pc + 3, ls, (2, m.1) :: st, (m.1 + 1, m.2.1 + (ai.2.2.2.1 : Int), (true, m.1, ai.2.2.1, (ai.2.2.2.1 : Int), 0) :: m.2.2))
  | 72 => match st with
    | (0, n) :: s => bif decide (0 ≤ n) && decide (n ≤ 65536) then some (pc + 2, ls, (2, m.1) :: s, (m.1 + 1, m.2.1 + n, (true, m.1, ai.2.2.1, n, 0) :: m.2.2)) else none
    | _ => none
  | 73 => match st with
    | (0, n) :: s => bif decide (0 ≤ n) && decide (n ≤ 65536) then some (pc + 3, ls, (2, m.1) :: s, (m.1 + 1, m.2.1 + n, (true, m.1, ai.2.2.1, n, 0) :: m.2.2)) else none
    | _ => none
  | 78 => match st with
    | (2, a) :: s => bif !(decide (a = -1)) && (Nat.ble 1 d && Nat.ble (am_cw s) 8) then some (pc + 3, ls, s, m) else none
    | _ => none
  | _ => none
theorem co_bif {b : Bool} {α : Type} {x y : α} (h : (bif b then some x else none) = some y) : b = true ∧ x = y := by
  cases b
  · cases h
  · exact ⟨rfl, Option.some.inj h⟩
set_option maxHeartbeats 4000000 in
theorem co_stp_ok {d : Nat} {ai : am_I} {pc : Nat} {ls st : List am_V} {M : am_M} {m : co_S} {r : co_R} {K : Nat → List am_V → List am_V → am_M → Prop} {C : Nat → List am_V → am_M → (List am_V → am_M → Prop) → Prop} {Q : List am_V → am_M → Prop} (h : co_stp d ai pc ls st m = some r) (hK : K r.1 r.2.1 r.2.2.1 (co_ap M r.2.2.2)) : am_body am_swt d ai pc ls st (co_ap M m) K C Q := by
  obtain ⟨op, x, y, z, w⟩ := ai
  unfold co_stp at h
  dsimp only at h
  split at h
  all_goals unfold am_body
  all_goals dsimp only
  all_goals first
    | (cases h; done)
    | (cases h; exact hK)
    | (split at h
       all_goals first
        | (cases h; done)
        | (cases h; exact hK)
        | (rename_i e; cases h; rw [e]; exact hK)
        | (obtain ⟨e1, e2⟩ := co_bif h
           subst e2
           rw [Bool.and_eq_true] at e1
           exact am_bif' e1.1 ⟨co_is_kd e1.2, hK⟩)
        | (obtain ⟨e1, e2⟩ := co_bif h
           subst e2
           obtain ⟨q1, q2, q3⟩ := co_in_kd (M := M) e1
           exact ⟨q1, q2, q3, hK⟩)
        | (obtain ⟨e1, e2⟩ := co_bif h
           subst e2
           rw [Bool.and_eq_true] at e1
           obtain ⟨q1, q2, q3⟩ := co_in_kd (M := M) e1.1
           exact ⟨q1, q2, q3, .inr (co_is_kd e1.2), hK⟩)
        | (obtain ⟨e1, e2⟩ := co_bif h
           subst e2
           rw [Bool.and_eq_true] at e1
           exact ⟨of_decide_eq_true e1.1, of_decide_eq_true e1.2, hK⟩)
        | (obtain ⟨e1, e2⟩ := co_bif h
           subst e2
           rw [Bool.and_eq_true, Bool.and_eq_true] at e1
           refine ⟨fun c => ?_, Nat.le_of_ble_eq_true e1.2.1, am_bif' e1.2.2 hK⟩
           rw [decide_eq_true c] at e1
           exact absurd e1.1 (by decide))
        | (cases e0 : decide (x = 3)
           · rw [e0] at h; cases h
           · rw [e0] at h
             have e0 := of_decide_eq_true e0
             subst e0
             refine ⟨fun c => ?_, fun c => ?_⟩
             · rw [decide_eq_true (show _ ≤ _ from c)] at h; cases h; exact hK
             · rw [decide_eq_false (show ¬ (_ ≤ _) from c)] at h; cases h; exact hK)
        | (cases e0 : co_is m.2.2 _ y
           · rw [e0] at h; cases h
           · rw [e0] at h
             refine ⟨co_is_kd e0, ?_⟩
             dsimp only [cond_true] at h
             split at h
             · rename_i v e
               cases h
               have e' : am_gt (co_ap M m) _ (z : Int) = v := co_gt_eq e
               rw [e']
               exact hK
             · cases h))
/-- the run -/
def co_run : Nat → Nat → List (Nat × List (Nat × am_I)) → Nat → List am_V → List am_V → co_S → Option co_S
  | 0, _, _, _, _, _, _ => none
  | f + 1, d, c, pc, ls, st, m => match co_stp d (am_lk c pc) pc ls st m with
    | some r => co_run f d c r.1 r.2.1 r.2.2.1 r.2.2.2
    | none => match am_lk c pc with
      | (94, _) => (match st with | [] => some m | _ => none)
      | (op, x, y, z, _) => bif (Nat.beq op 76 || Nat.beq op 77) && ((Nat.ble (z + 1) st.length && Nat.ble (am_cw (st.drop (z + 1))) 8) && (Nat.ble 1 d && Nat.ble (am_lay (st.take (z + 1)).reverse).length (am_mx y))) then (match st.getD z (9, 0) with
        | (2, a) => bif co_is m.2.2 a x.toNat then (match co_run f (d - 1) (am_cs y) 0 (am_ent (am_mx y) (st.take (z + 1)).reverse) [] m with
          | some m' => co_run f d c (pc + 3) ls (st.drop (z + 1)) m'
          | none => none) else none
        | _ => none) else none
theorem co_run_ok {M : am_M} : ∀ {f d : Nat} {c : List (Nat × List (Nat × am_I))} {pc : Nat} {ls st : List am_V} {m m' : co_S} {Q : List am_V → am_M → Prop}, co_run f d c pc ls st m = some m' → Q [] (co_ap M m') → am_WP d c pc ls st (co_ap M m) Q
  | 0, _, _, _, _, _, _, _, _, h, _ => by cases h
  | f + 1, d, c, pc, ls, st, m, m', Q, h, hQ => by
    unfold co_run at h
    split at h
    · rename_i r e
      exact am_step (co_stp_ok e (co_run_ok h hQ))
    · split at h
      · rename_i e
        refine am_step ?_
        rw [e]
        split at h
        · cases h; exact hQ
        · cases h
      · rename_i op x y z w _ e
        refine am_step ?_
        rw [e]
        cases e1 : (Nat.beq op 76 || Nat.beq op 77) && ((Nat.ble (z + 1) st.length && Nat.ble (am_cw (st.drop (z + 1))) 8) && (Nat.ble 1 d && Nat.ble (am_lay (st.take (z + 1)).reverse).length (am_mx y)))
        · rw [e1] at h; cases h
        · rw [e1] at h
          dsimp only [cond_true] at h
          rw [Bool.and_eq_true, Bool.and_eq_true, Bool.and_eq_true (Nat.ble 1 d)] at e1
          obtain ⟨e2, e3, e4, e5⟩ := e1
          split at h
          · rename_i a e6
            cases e7 : co_is m.2.2 a x.toNat
            · rw [e7] at h; cases h
            · rw [e7] at h
              dsimp only [cond_true] at h
              split at h
              · rename_i m1 e8
                have hb : am_kd (co_ap M m) a = x.toNat ∧ am_CC d y (st.take (z + 1)).reverse (co_ap M m) (fun r M' => am_WP d c (pc + 3) ls (r ++ st.drop (z + 1)) M' Q) := ⟨co_is_kd e7, Nat.le_of_ble_eq_true e4, am_bif' e5 (co_run_ok e8 (co_run_ok h hQ))⟩
                rw [Bool.or_eq_true] at e2
                rcases e2 with e2 | e2
                · have e2 := Nat.eq_of_beq_eq_true e2
                  subst e2
                  unfold am_body
                  dsimp only
                  refine am_bif' e3 ?_
                  rw [e6]
                  exact hb
                · have e2 := Nat.eq_of_beq_eq_true e2
                  subst e2
                  unfold am_body
                  dsimp only
                  refine am_bif' e3 ?_
                  rw [e6]
                  exact hb
              · cases h
          · cases h
