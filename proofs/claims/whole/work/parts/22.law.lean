/-! THE LAW'S START: from what the Statement gives to the small machine's run -/
def am_M00 (L : Int) (xs : Int → Int) : am_M := (0, 0, fun a => if a = -2 then (110, L) else if a ≤ -10 ∧ -49 < a then (111, ((am_tx.getD (-10 - a).toNat []).length : Int)) else (999, 0), fun a i => if a = -2 then xs i else if a ≤ -10 ∧ -49 < a then (am_tx.getD (-10 - a).toNat []).getD i.toNat 0 else 0)
theorem am_kd00 (L : Int) (xs : Int → Int) (a : Int) : am_kd (am_M00 L xs) a = if a = -2 then 110 else if a ≤ -10 ∧ -49 < a then 111 else 999 := by
  show (if a = -2 then (110, L) else if a ≤ -10 ∧ -49 < a then (111, ((am_tx.getD (-10 - a).toNat []).length : Int)) else ((999, 0) : Nat × Int)).1 = _
  split
  · rfl
  · split <;> rfl
theorem am_ok00 (L : Int) (xs : Int → Int) : am_ok L xs (am_M00 L xs) := by
  refine ⟨Int.le_refl _, Int.le_refl _, fun a ha => ?_, fun a ha hb => ?_, fun a ha => ?_, fun a ha hb => ?_, fun a i ha => ?_, fun a ha => ?_, ?_, fun i => ?_, fun a ha => ?_, fun k hk => ⟨?_, fun i hi => ?_⟩⟩
  · rw [am_kd00] at ha; split at ha; · omega
    · split at ha <;> omega
  · exact absurd hb (by show ¬ a < 0; omega)
  · rw [am_kd00] at ha; split at ha; · omega
    · split at ha <;> omega
  · rw [am_kd00] at hb; split at hb; · omega
    · split at hb <;> omega
  · rw [am_kd00] at ha; split at ha; · omega
    · split at ha <;> omega
  · rw [am_kd00] at ha; split at ha
    · assumption
    · split at ha <;> omega
  · rfl
  · rfl
  · rw [am_kd00] at ha; split at ha
    · omega
    · split at ha
      · assumption
      · omega
  · show (if (-10 - (k : Int)) = -2 then (110, L) else if (-10 - (k : Int)) ≤ -10 ∧ -49 < (-10 - (k : Int)) then (111, ((am_tx.getD (-10 - (-10 - (k : Int))).toNat []).length : Int)) else ((999, 0) : Nat × Int)).2 = _
    rw [if_neg (by omega), if_pos (by omega), show (-10 - (-10 - (k : Int))).toNat = k by omega]
  · show (if (-10 - (k : Int)) = -2 then xs i else if (-10 - (k : Int)) ≤ -10 ∧ -49 < (-10 - (k : Int)) then (am_tx.getD (-10 - (-10 - (k : Int))).toNat []).getD ((i : Int)).toNat 0 else 0) = _
    rw [if_neg (by omega), if_pos (by omega), show (-10 - (-10 - (k : Int))).toNat = k by omega, Int.toNat_natCast]
/-- a text -/
theorem am_text {args : Array Value} {s : State} {tm : Term} {n : Nat} {f : Nat → Int32} {A : Nat → Prop} (hN : n < 2 ^ 31) (hex : (Cond.exactly tm "java/lang/String").before args s = true) (hco : (Cond.eq (.field tm "java/lang/String" "coder" "B") (.int 0)).before args s = true) (har : (Cond.arrayOf (.field tm "java/lang/String" "value" "[B") .byte).before args s = true) (hle : (Cond.eq (.length (.field tm "java/lang/String" "value" "[B")) (.int (Int32.ofNat n))).before args s = true) (hel : ∀ j : Nat, j < n → (Cond.eq (.elem (.field tm "java/lang/String" "value" "[B") (.int (Int32.ofNat j))) (.int (f j))).before args s = true) (hA : ∀ a : Nat, a < s.heap.size → ¬ A a) :
    ∃ a t : Nat, tm.eval args s none [] s = some (.ref a) ∧ va_O "java/lang/String" a A s s.heap ∧ va_OF "java/lang/String" "coder" "B" (.int 0) a A s s.heap ∧ va_OF "java/lang/String" "value" "[B" (.ref t) a A s s.heap ∧ va_T .byte t n (fun j => .int (f j)) A s s.heap := by
  obtain ⟨a, cS, cell, kS, q1, q2, q3, -, q5, q6, -⟩ := Cond.exactly_spec (args := args) (first := s) (o := none) (s := s) (idx := []) (t := tm) (cls := "java/lang/String") hex
  obtain ⟨t, ht, hT⟩ := va_Tof (f := fun j => .int (f j)) (A := A) hN har (va_eqt hle) (fun j hj => va_eqt (hel j hj)) hA
  exact ⟨a, t, q1, ⟨cell, q3, q5, by rw [q6]; exact q2, hA a (Array.getElem?_eq_some_iff.mp q3).1⟩, vk_OFof q1 (va_eqt hco) hA, vk_OFof q1 ht hA, hT⟩
abbrev am_tm (k : Nat) : Term := .string "NightMirrors$Reader" (am_sr.getD k 0)
def am_txc (k : Nat) : List Cond := [Cond.exactly (am_tm k) "java/lang/String", Cond.eq (.field (am_tm k) "java/lang/String" "coder" "B") (.int 0), Cond.arrayOf (.field (am_tm k) "java/lang/String" "value" "[B") .byte, Cond.eq (.length (.field (am_tm k) "java/lang/String" "value" "[B")) (.int (Int32.ofNat (am_tx.getD k []).length))] ++ (List.range (am_tx.getD k []).length).map (fun (j : Nat) => Cond.eq (.elem (.field (am_tm k) "java/lang/String" "value" "[B") (.int (Int32.ofNat j))) (.int (Int32.ofInt ((am_tx.getD k []).getD j 0))))
set_option maxRecDepth 100000 in
set_option maxHeartbeats 4000000 in
theorem am_txc_in : ((List.range 39).all fun k => (am_txc k).all fun w => decide (w ∈ flatC (Jvm.Cond.and given_1 narrow_1))) = true := by decide +kernel
