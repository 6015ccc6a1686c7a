theorem am_goal : am_Goal := by
  intro L xs L0 L1 xi
  have e0 : am_nw (am_M00 L xs) 0 19 = co_ap (am_M00 L xs) (1, 19, [(true, 0, 0, 19, 0)]) := rfl
  have e1 : am_nw (co_ap (am_M00 L xs) (214, 4868, co_o1)) 8 59 = co_ap (am_M00 L xs) (215, 4927, (true, 214, 8, 59, 0) :: co_o1) := rfl
  refine g_262_0 (x0 := -2) ⟨rfl, by decide, ?_⟩
  rw [e0]
  refine co_run_ok (M := am_M00 L xs) (f := 400) (m' := (214, 4868, co_o1)) co_run1 ?_
  refine g_262_7 (s0 := 0) ⟨rfl, by decide, ?_⟩
  rw [e1]
  refine co_run_ok (M := am_M00 L xs) (f := 400) (m' := (247, 25654, co_o2)) co_run2 ?_
  refine g_262_15 (s0 := 214) ?_
  refine nm_law_loop (L := L) (xs := xs) L0 L1 xi (fun M h1 h2 => ⟨rfl, h1, h2⟩) 512 0 co_X0 (co_M L xs) (by decide) (by omega) co_ok co_C co_Mm ?_ ?_ (fun j => ?_) (by show (247 : Int) + _ ≤ _; omega) (by show (25654 : Int) + _ ≤ _; omega)
  · show ((co_M L xs).2.2.1 (-2)).1 = 110
    rw [co_Nt (by decide)]
    rfl
  · show ((co_M L xs).2.2.1 (-2)).2 = L
    rw [co_Nt (by decide)]
    rfl
  · rw [co_Ng (by decide)]
    rfl
