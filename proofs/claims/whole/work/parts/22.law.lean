/-! THE LAW'S START: from what the Statement gives to the small machine's run -/
def am_M00 (L : Int) (xs : Int → Int) : am_M := (0, 0, fun a => if a = -2 then (110, L) else if a ≤ -10 ∧ -49 < a then (111, ((am_tx.getD (-10 - a).toNat []).length : Int)) else (999, 0), fun a i => if a = -2 then xs i else if a ≤ -10 ∧ -49 < a then (am_tx.getD (-10 - a).toNat []).getD i.toNat 0 else 0)
theorem am_kd00 (L : Int) (xs : Int → Int) (a : Int) : am_kd (am_M00 L xs) a = if a = -2 then 110 else if a ≤ -10 ∧ -49 < a then 111 else 999 := by
  show (if a = -2 then (110, L) else if a ≤ -10 ∧ -49 < a then (111, ((am_tx.getD (-10 - a).toNat []).length : Int)) else ((999, 0) : Nat × Int)).1 = _
  split
  · rfl
  · split <;> rfl
theorem am_ok00 (L : Int) (xs : Int → Int) : am_ok L xs (am_M00 L xs) := by
  refine ⟨Int.le_refl _, Int.le_refl _, fun a ha => ?_, fun a ha hb => ?_, fun a ha => ?_, fun a ha hb => ?_, fun a i ha => ?_, fun a ha => ?_, ?_, fun i => ?_, fun a ha => ?_, fun k hk => ⟨?_, fun i hi => ?_⟩⟩
  · rw [am_kd00] at ha; split at ha; · omega
    · split at ha <;> omega
  · exact absurd hb (by show ¬ a < 0; omega)
  · rw [am_kd00] at ha; split at ha; · omega
    · split at ha <;> omega
  · rw [am_kd00] at hb; split at hb; · omega
    · split at hb <;> omega
  · rw [am_kd00] at ha; split at ha; · omega
    · split at ha <;> omega
  · rw [am_kd00] at ha; split at ha
    · assumption
    · split at ha <;> omega
  · rfl
  · rfl
  · rw [am_kd00] at ha; split at ha
    · omega
    · split at ha
      · assumption
      · omega
  · show (if (-10 - (k : Int)) = -2 then (110, L) else if (-10 - (k : Int)) ≤ -10 ∧ -49 < (-10 - (k : Int)) then (111, ((am_tx.getD (-10 - (-10 - (k : Int))).toNat []).length : Int)) else ((999, 0) : Nat × Int)).2 = _
    rw [if_neg (by omega), if_pos (by omega), show (-10 - (-10 - (k : Int))).toNat = k by omega]
  · show (if (-10 - (k : Int)) = -2 then xs i else if (-10 - (k : Int)) ≤ -10 ∧ -49 < (-10 - (k : Int)) then (am_tx.getD (-10 - (-10 - (k : Int))).toNat []).getD ((i : Int)).toNat 0 else 0) = _
    rw [if_neg (by omega), if_pos (by omega), show (-10 - (-10 - (k : Int))).toNat = k by omega, Int.toNat_natCast]
/-- a text -/
theorem am_text {args : Array Value} {s : State} {tm : Term} {n : Nat} {f : Nat → Int32} {A : Nat → Prop} (hN : n < 2 ^ 31) (hex : (Cond.exactly tm "java/lang/String").before args s = true) (hco : (Cond.eq (.field tm "java/lang/String" "coder" "B") (.int 0)).before args s = true) (har : (Cond.arrayOf (.field tm "java/lang/String" "value" "[B") .byte).before args s = true) (hle : (Cond.eq (.length (.field tm "java/lang/String" "value" "[B")) (.int (Int32.ofNat n))).before args s = true) (hel : ∀ j : Nat, j < n → (Cond.eq (.elem (.field tm "java/lang/String" "value" "[B") (.int (Int32.ofNat j))) (.int (f j))).before args s = true) (hA : ∀ a : Nat, a < s.heap.size → ¬ A a) :
    ∃ a t : Nat, tm.eval args s none [] s = some (.ref a) ∧ va_O "java/lang/String" a A s s.heap ∧ va_OF "java/lang/String" "coder" "B" (.int 0) a A s s.heap ∧ va_OF "java/lang/String" "value" "[B" (.ref t) a A s s.heap ∧ va_T .byte t n (fun j => .int (f j)) A s s.heap := by
  obtain ⟨a, cS, cell, kS, q1, q2, q3, -, q5, q6, -⟩ := Cond.exactly_spec (args := args) (first := s) (o := none) (s := s) (idx := []) (t := tm) (cls := "java/lang/String") hex
  obtain ⟨t, ht, hT⟩ := va_Tof (f := fun j => .int (f j)) (A := A) hN har (va_eqt hle) (fun j hj => va_eqt (hel j hj)) hA
  exact ⟨a, t, q1, ⟨cell, q3, q5, by rw [q6]; exact q2, hA a (Array.getElem?_eq_some_iff.mp q3).1⟩, vk_OFof q1 (va_eqt hco) hA, vk_OFof q1 ht hA, hT⟩
abbrev am_tm (k : Nat) : Term := .string "NightMirrors$Reader" (am_sr.getD k 0)
def am_txc (k : Nat) : List Cond := [Cond.exactly (am_tm k) "java/lang/String", Cond.eq (.field (am_tm k) "java/lang/String" "coder" "B") (.int 0), Cond.arrayOf (.field (am_tm k) "java/lang/String" "value" "[B") .byte, Cond.eq (.length (.field (am_tm k) "java/lang/String" "value" "[B")) (.int (Int32.ofNat (am_tx.getD k []).length))] ++ (List.range (am_tx.getD k []).length).map (fun (j : Nat) => Cond.eq (.elem (.field (am_tm k) "java/lang/String" "value" "[B") (.int (Int32.ofNat j))) (.int (Int32.ofInt ((am_tx.getD k []).getD j 0))))
set_option maxRecDepth 100000 in
set_option maxHeartbeats 4000000 in
theorem am_flat_eq : (flatC (Jvm.Cond.and given_1 narrow_1)).drop 36 = (List.range 39).flatMap am_txc := by decide +kernel
theorem am_txc_in {k : Nat} (hk : k < 39) {w : Cond} (hw : w ∈ am_txc k) : w ∈ flatC (Jvm.Cond.and given_1 narrow_1) := by
  refine List.mem_of_mem_drop (i := 36) ?_
  rw [am_flat_eq]
  exact List.mem_flatMap.mpr ⟨k, List.mem_range.mpr hk, hw⟩
/-- the numbers of the classes' cells and of the arrays' classes -/
theorem am_start {s : State} {args : Array Value} (hts : ∀ w ∈ lw_tbl, w.before args s = true) : ∃ (D : va_G) (cy : Nat → ClassId), va_K D am_cls (am_tys cy) s := by
  have hg : ∀ w ∈ am_gT, w.before args s = true := fun w hw => hts w (List.mem_filter.mp hw).1
  have h0 : ∀ c : Nat, ∃ q : ClassId × (Nat → Nat), c < 9 → u_Kn s (am_ocn c) (am_Ts c) (am_nf c) q.1 q.2 := by
    intro c
    by_cases hc : c < 9
    · have hnc : (c, am_nf c) ∈ am_nc := by
        match c, hc with
        | 0, _ => decide
        | 1, _ => decide
        | 2, _ => decide
        | 3, _ => decide
        | 4, _ => decide
        | 5, _ => decide
        | 6, _ => decide
        | 7, _ => decide
        | 8, _ => decide
      obtain ⟨cC, iS, h⟩ := u_known hg (am_uu hc) (hg _ (am_nc_ok hnc))
      exact ⟨(cC, iS), fun _ => h⟩
    · exact ⟨(0, fun _ => 0), fun h => absurd h hc⟩
  obtain ⟨fD, hD⟩ := Classical.axiomOfChoice h0
  have p1 : ∀ (ty : FieldType), (∀ C, ty ≠ .object C) → (Cond.arrayClass ty).before args s = true → ∃ cA, ArrOfT s cA ty ∧ va_RA s cA ty := by
    intro ty hno h
    obtain ⟨cA, kA, comp, h1, h2, h3⟩ := Cond.arrayClass_spec (args := args) (first := s) (o := none) (s := s) (idx := []) h
    refine ⟨cA, fun n z => ⟨fun k h => (by cases h), kA, h2, comp, h3⟩, ?_⟩
    cases ty with
    | object C => exact absurd rfl (hno C)
    | _ => exact h1
  have p2 : ∀ C : String, (Cond.arrayOver (.object C)).before args s = true → ∃ cA, ArrOfT s cA (.object C) ∧ va_RA s cA (.object C) := by
    intro C h
    obtain ⟨comp, cA, kA, h1, h2, h3, h4, h5⟩ := Cond.arrayOver_spec (args := args) (first := s) (o := none) (s := s) (idx := []) h
    exact ⟨cA, fun n z => ⟨fun k h => (by cases h), kA, h3, comp, h4⟩, kA, comp, h3, h4, h1, h5⟩
  obtain ⟨a0, i0⟩ := p1 .int (fun _ h => by cases h) (hts _ (List.mem_of_getElem? (i := 179) (by decide +kernel)))
  obtain ⟨a1, i1⟩ := p1 .long (fun _ h => by cases h) (hts _ (List.mem_of_getElem? (i := 462) (by decide +kernel)))
  obtain ⟨a2, i2⟩ := p1 .boolean (fun _ h => by cases h) (hts _ (List.mem_of_getElem? (i := 273) (by decide +kernel)))
  obtain ⟨a3, i3⟩ := p2 "NightMirrors$State" (hts _ (List.mem_of_getElem? (i := 256) (by decide +kernel)))
  obtain ⟨a4, i4⟩ := p2 "NightMirrors$Text" (hts _ (List.mem_of_getElem? (i := 143) (by decide +kernel)))
  obtain ⟨a5, i5⟩ := p2 "NightMirrors$Works" (hts _ (List.mem_of_getElem? (i := 389) (by decide +kernel)))
  refine ⟨(fun c => (fD c).1, fun c => (fD c).2), fun k => if k = 100 then a0 else if k = 101 then a1 else if k = 102 then a2 else if k = 103 then a3 else if k = 104 then a4 else a5, fun c q hq => ?_, fun k q hq => ?_⟩
  · have hc : c < 9 := (List.getElem?_eq_some_iff.mp hq).1
    rw [am_clat hc] at hq
    cases hq
    exact hD c hc
  · match k, hq with
    | 0, hq => cases hq; exact i0
    | 1, hq => cases hq; exact i1
    | 2, hq => cases hq; exact i2
    | 3, hq => cases hq; exact i3
    | 4, hq => cases hq; exact i4
    | 5, hq => cases hq; exact i5
    | k + 6, hq => cases hq
theorem am_start_Ev {s : State} {args : Array Value} (hts : ∀ w ∈ lw_tbl, w.before args s = true) : am_Ev s := by
  refine ⟨fun q hq => ?_, fun k h1 h2 => ?_, va_Nw.of rfl (hts (.castable "[I" "java/lang/Cloneable") (List.mem_of_getElem? (i := 799) (by decide +kernel)))⟩
  · have hall : (am_mlN.all fun q => decide (Cond.methodLinkNest (am_ocn q.1) q.2.1 (am_yn q.2.2) "NightMirrors" ∈ lw_tbl)) = true := by decide +kernel
    have h := of_decide_eq_true (List.all_eq_true.mp hall q hq)
    exact va_Nw.of rfl (hts _ h)
  · rcases (show k = 103 ∨ k = 104 ∨ k = 105 by omega) with rfl | rfl | rfl
    · exact va_AO.of (hts (.arrayOver (.object "NightMirrors$State")) (List.mem_of_getElem? (i := 256) (by decide +kernel)))
    · exact va_AO.of (hts (.arrayOver (.object "NightMirrors$Text")) (List.mem_of_getElem? (i := 143) (by decide +kernel)))
    · exact va_AO.of (hts (.arrayOver (.object "NightMirrors$Works")) (List.mem_of_getElem? (i := 389) (by decide +kernel)))
def am_srw : List Cond := (List.range 39).map fun k => Cond.stringRef "NightMirrors$Reader" (am_sr.getD k 0) (am_sx.getD k "")
set_option maxRecDepth 100000 in
theorem am_srw_in : (am_srw.all fun w => decide (w ∈ lw_tbl)) = true := by decide +kernel
theorem am_start_Ex {s : State} {args : Array Value} {b L : Nat} {xs : Nat → Int32} (hts : ∀ w ∈ lw_tbl, w.before args s = true) (hgv : (Jvm.Cond.and given_1 narrow_1).before args s = true) (hX : va_X b L xs s s.heap) (hb : b < s.heap.size) : ∃ (ext : Int → Nat) (adV : Nat → Nat), ext (-2) = b ∧ am_Ex s.heap.size ext adV (L : Int) (fun i => (xs i.toNat).toInt) s s.heap := by
  have hA : ∀ a : Nat, a < s.heap.size → ¬ am_A s.heap.size a := fun a h q => by have q : s.heap.size ≤ a := q; omega
  have hf := flat_of_before _ hgv
  have h0 : ∀ k : Nat, ∃ q : Nat × Nat, k < 39 → vk_R "NightMirrors$Reader" (am_sr.getD k 0) (am_sx.getD k "") q.1 s ∧ va_O "java/lang/String" q.1 (am_A s.heap.size) s s.heap ∧ va_OF "java/lang/String" "coder" "B" (.int 0) q.1 (am_A s.heap.size) s s.heap ∧ va_OF "java/lang/String" "value" "[B" (.ref q.2) q.1 (am_A s.heap.size) s s.heap ∧ va_T .byte q.2 (am_tx.getD k []).length (fun j => .int (Int32.ofInt ((am_tx.getD k []).getD j 0))) (am_A s.heap.size) s s.heap := by
    intro k
    by_cases hk : k < 39
    · have hin : ∀ w ∈ am_txc k, w.before args s = true := fun w hw => hf w (am_txc_in hk hw)
      obtain ⟨a, t, e1, e2, e3, e4, e5⟩ := am_text (tm := am_tm k) (n := (am_tx.getD k []).length) (f := fun j => Int32.ofInt ((am_tx.getD k []).getD j 0)) (A := am_A s.heap.size) (by have := am_tx_len k hk; omega) (hin _ (by unfold am_txc; simp)) (hin _ (by unfold am_txc; simp)) (hin _ (by unfold am_txc; simp)) (hin _ (by unfold am_txc; simp)) (fun j hj => hin _ (List.mem_append_right _ (List.mem_map.mpr ⟨j, List.mem_range.mpr hj, rfl⟩))) hA
      have hw : Cond.stringRef "NightMirrors$Reader" (am_sr.getD k 0) (am_sx.getD k "") ∈ lw_tbl := of_decide_eq_true (List.all_eq_true.mp am_srw_in _ (List.mem_map.mpr ⟨k, List.mem_range.mpr hk, rfl⟩))
      exact ⟨(a, t), fun _ => ⟨vk_R.of (hts _ hw) e1, e2, e3, e4, e5⟩⟩
    · exact ⟨(0, 0), fun h => absurd h hk⟩
  obtain ⟨ad, had⟩ := Classical.axiomOfChoice h0
  have hz : va_Z "java/lang/String" "COMPACT_STRINGS" "Z" (.int 1) (am_A s.heap.size) s s.heap := va_Zof (hts (.laysStatic "java/lang/String" "COMPACT_STRINGS" "Z") (List.mem_of_getElem? (i := 660) (by decide +kernel))) (hts (.initialized "java/lang/String") (List.mem_of_getElem? (i := 121) (by decide +kernel))) (va_eqi (hf (Cond.eq (.static "java/lang/String" "COMPACT_STRINGS" "Z") (.int 1)) (by decide +kernel))) hA
  have hzq : va_Zq "jdk/internal/util/Preconditions" "SIOOBE_FORMATTER" "Ljava/util/function/BiFunction;" (am_A s.heap.size) s s.heap := va_Zqof (hts (.laysStatic "jdk/internal/util/Preconditions" "SIOOBE_FORMATTER" "Ljava/util/function/BiFunction;") (List.mem_of_getElem? (i := 676) (by decide +kernel))) (hts (.initialized "jdk/internal/util/Preconditions") (List.mem_of_getElem? (i := 123) (by decide +kernel))) (hf (Cond.isRef (.static "jdk/internal/util/Preconditions" "SIOOBE_FORMATTER" "Ljava/util/function/BiFunction;")) (by decide +kernel)) hA
  refine ⟨fun a => if a = -2 then b else (ad (-10 - a).toNat).1, fun k => (ad k).2, rfl, ⟨?_, hb⟩, fun k hk => ?_, hz, hzq⟩
  · show va_X b ((L : Int).toNat) (fun (j : Nat) => Int32.ofInt ((xs ((j : Int)).toNat).toInt)) s s.heap
    simp only [Int.toNat_natCast, Int32.ofInt_toInt]
    exact hX
  · have e : (if (-10 - (k : Int)) = -2 then b else (ad (-10 - (-10 - (k : Int))).toNat).1) = (ad k).1 := by rw [if_neg (by omega), show (-10 - (-10 - (k : Int))).toNat = k by omega]
    show vk_R "NightMirrors$Reader" (am_sr.getD k 0) (am_sx.getD k "") (if (-10 - (k : Int)) = -2 then b else (ad (-10 - (-10 - (k : Int))).toNat).1) s ∧ _
    simp only [e]
    exact had k hk
