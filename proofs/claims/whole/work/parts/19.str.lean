theorem am_tx_len : ∀ k, k < 39 → (am_tx.getD k []).length < 65536 := by decide +kernel
theorem am_tx_ascii : ∀ k, k < 39 → ∀ i, i < (am_tx.getD k []).length → 0 ≤ (am_tx.getD k []).getD i 0 ∧ (am_tx.getD k []).getD i 0 < 128 := by decide +kernel
section AmOps
variable {l : Launch} {D : va_G} {cy : Nat → ClassId} {Bz : Nat} {ext : Int → Nat} {L : Int} {xs : Int → Int} {mi : Nat} {p : Program} {e : Env} {R : Room} {s : State} {m : MethodId} {args : Array Value} {below : List Frame} {meth : Method} {c : Code} {M0 : am_M} {Qf : State → Prop} {pc : Nat} {ls st : List am_V} {M : am_M}
theorem am_s_ldcs (X : am_Cx D cy mi p s m args meth c) {x : Int} {w : Nat} {adV : Nat → Nat} (hEx : am_Ex Bz ext adV L xs s s.heap) (hd : decode (am_by mi) pc = .ok (.ldc w, 2)) (ho : am_oc mi = 3) (hx : x ≤ -10) (hw : am_sr[(-10 - x).toNat]? = some w) (k : (am_At l D cy Bz ext L xs mi p e R s m args below meth c M0 Qf (pc + 2) (ls) ((2, x) :: st) (M))) : (am_At l D cy Bz ext L xs mi p e R s m args below meth c M0 Qf (pc) (ls) (st) (M)) := by
  intro hok hst h1 h2 lr H locs hl hm hlo
  have hk : (-10 - x).toNat < 39 := (List.getElem?_eq_some_iff.mp hw).1
  obtain ⟨q1, -⟩ := hEx.2.1 _ hk
  have kk := k hok (am_SR.cons (v := (2, x)) trivial hst) h1 h2 lr H locs hl hm hlo
  have hown := X.2.2.2.1
  rw [ho] at hown
  rw [List.getD_eq_getElem?_getD, hw] at q1
  rw [List.map_cons, am_rv2n (by omega), show x = -10 - (((-10 - x).toNat : Nat) : Int) by omega] at kk
  exact va_ldcS X.1 X.2.1 hown q1 hd kk

theorem am_s_strlen (X : am_Cx D cy mi p s m args meth c) {a : Int} {q : Nat} {adV : Nat → Nat} (hEx : am_Ex Bz ext adV L xs s s.heap) (hd : decode (am_by mi) pc = .ok (.invokevirtual q, 3)) (hq : (am_oc mi, q, 4) ∈ am_jl) (hfr : 4 ≤ R.frames) (hlc : 400 ≤ R.locals) (hc : am_cw st ≤ 8) (hkd : am_kd M a = 111) (hr1 : M.1 - M0.1 ≤ (R.cells : Int)) (hr2 : M.2.1 - M0.2.1 ≤ (R.slots : Int)) (k : (am_At l D cy Bz ext L xs mi p e R s m args below meth c M0 Qf (pc + 3) (ls) ((0, am_ln M a) :: st) (M))) : (am_At l D cy Bz ext L xs mi p e R s m args below meth c M0 Qf (pc) (ls) ((2, a) :: st) (M)) := by
  intro hok hst h1 h2 lr H locs hl hm hlo
  obtain ⟨ha1, ha2⟩ := hok.2.2.2.2.2.2.2.2.2.2.1 a hkd
  obtain ⟨kk0, hkk⟩ : ∃ k : Nat, a = -10 - (k : Int) := ⟨(-10 - a).toNat, by omega⟩
  have hk : kk0 < 39 := by omega
  subst hkk
  obtain ⟨ln1, ln2⟩ := hok.2.2.2.2.2.2.2.2.2.2.2 kk0 hk
  have hlen := (am_tx_len kk0 hk)
  have hmc := am_map_cat (Bz := Bz) (ext := ext) hst.tl hc
  have hU : ∀ U : State, U.heap = H → s.WarmedH U.vm → js_U Bz (ext (-10 - (kk0 : Int))) (adV kk0) (am_tx.getD kk0 []).length (fun j => .int (Int32.ofInt ((am_tx.getD kk0 []).getD j 0))) U := by
    intro U hU hW
    obtain ⟨-, g2, g3, g4⟩ := hEx.warm hW (H1 := H) hlo.2.1
    obtain ⟨-, q2, q3, q4, q5⟩ := g2 kk0 hk
    unfold js_U
    rw [hU]
    exact ⟨q2, q3, q4, q5, g3, g4⟩
  have hO : va_O "java/lang/String" (ext (-10 - (kk0 : Int))) (am_A Bz) s H := (hEx.2.1 kk0 hk).2.1.kept hlo.2.1
  have kk := k hok (am_SR.cons (v := (0, am_ln M (-10 - (kk0 : Int)))) (by show am_i32 _; rw [ln1]; unfold am_i32; omega) hst.tl) h1 h2 lr H locs hl hm hlo
  rw [List.map_cons, am_rv2n (by omega)]
  have hcw : CallW R s args (am_ocn (am_oc mi)) "java/lang/String" q js_y_length prog_14_method_54_code 1 (some .int) js_w_length (js_rm 1) 0 0 0 := ⟨callB_of (Ts := am_gT) 0 X.2.2.2.2.1 (js_good js_c_length) rfl rfl rfl (X.2.2.2.2.1 _ (am_gT_of (i := 121) (by decide +kernel) (by decide +kernel))) (X.2.2.2.2.1 _ (am_jl_ok hq)) (by decide +kernel) ⟨by show 1 + 1 ≤ R.frames; omega, by show 8 + (1 + 11) + 40 * 1 ≤ R.locals; omega⟩, (X.2.2.2.2.1 _ (am_gT_of (i := 652) (by decide +kernel) (by decide +kernel))), (X.2.2.2.2.1 _ (am_gT_of (i := 653) (by decide +kernel) (by decide +kernel)))⟩
  refine js_callW (va_runV (Ts := am_gT) (As := []) (rest := st.map (am_rv Bz ext)) (C := "java/lang/String") (own := am_ocn (am_oc mi)) (nL := am_mx mi) ⟨X.1, X.2.1, X.2.2.1, X.2.2.2.1, X.2.2.2.2.1⟩ (js_length l Bz _ (adV kk0) _ _ hlen) hcw ⟨js_blind, js_recv hO, fun U hU2 hW => ⟨rfl, hU U hU2 hW⟩⟩ rfl rfl hl.2.1 rfl (by show 2 * 0 + _ ≤ 8; omega) hd ⟨by omega, by omega⟩) ?_
  rw [List.map_cons, am_rv0, ln1, Int32.ofInt_eq_ofNat] at kk
  exact kk

theorem am_s_strat (X : am_Cx D cy mi p s m args meth c) {a i : Int} {q : Nat} {adV : Nat → Nat} (hEx : am_Ex Bz ext adV L xs s s.heap) (hd : decode (am_by mi) pc = .ok (.invokevirtual q, 3)) (hq : (am_oc mi, q, 5) ∈ am_jl) (hfr : 4 ≤ R.frames) (hlc : 400 ≤ R.locals) (hc : am_cw st ≤ 8) (hkd : am_kd M a = 111) (h0 : 0 ≤ i) (hi : i < am_ln M a) (hr1 : M.1 - M0.1 ≤ (R.cells : Int)) (hr2 : M.2.1 - M0.2.1 ≤ (R.slots : Int)) (k : (am_At l D cy Bz ext L xs mi p e R s m args below meth c M0 Qf (pc + 3) (ls) ((0, am_gt M a i) :: st) (M))) : (am_At l D cy Bz ext L xs mi p e R s m args below meth c M0 Qf (pc) (ls) ((0, i) :: (2, a) :: st) (M)) := by
  intro hok hst h1 h2 lr H locs hl hm hlo
  obtain ⟨ha1, ha2⟩ := hok.2.2.2.2.2.2.2.2.2.2.1 a hkd
  obtain ⟨kk0, hkk⟩ : ∃ k : Nat, a = -10 - (k : Int) := ⟨(-10 - a).toNat, by omega⟩
  have hk : kk0 < 39 := by omega
  subst hkk
  obtain ⟨ln1, ln2⟩ := hok.2.2.2.2.2.2.2.2.2.2.2 kk0 hk
  have hlen := (am_tx_len kk0 hk)
  have hmc := am_map_cat (Bz := Bz) (ext := ext) hst.tl.tl hc
  have hU : ∀ U : State, U.heap = H → s.WarmedH U.vm → js_U Bz (ext (-10 - (kk0 : Int))) (adV kk0) (am_tx.getD kk0 []).length (fun j => .int (Int32.ofInt ((am_tx.getD kk0 []).getD j 0))) U := by
    intro U hU hW
    obtain ⟨-, g2, g3, g4⟩ := hEx.warm hW (H1 := H) hlo.2.1
    obtain ⟨-, q2, q3, q4, q5⟩ := g2 kk0 hk
    unfold js_U
    rw [hU]
    exact ⟨q2, q3, q4, q5, g3, g4⟩
  have hO : va_O "java/lang/String" (ext (-10 - (kk0 : Int))) (am_A Bz) s H := (hEx.2.1 kk0 hk).2.1.kept hlo.2.1
  rw [ln1] at hi
  obtain ⟨j, rfl⟩ : ∃ j : Nat, i = (j : Int) := ⟨i.toNat, by omega⟩
  have hj : j < (am_tx.getD kk0 []).length := by omega
  have hgt := ln2 j hj
  obtain ⟨c0, c1⟩ := am_tx_ascii kk0 hk j hj
  obtain ⟨ch, hch⟩ : ∃ ch : Nat, (am_tx.getD kk0 []).getD j 0 = (ch : Int) := ⟨((am_tx.getD kk0 []).getD j 0).toNat, by omega⟩
  have kk := k hok (am_SR.cons (v := (0, am_gt M (-10 - (kk0 : Int)) (j : Int))) (by show am_i32 _; rw [hgt]; unfold am_i32; omega) hst.tl.tl) h1 h2 lr H locs hl hm hlo
  rw [List.map_cons, List.map_cons, am_rv2n (by omega), am_rv0, Int32.ofInt_eq_ofNat]
  have hcw : CallW R s args (am_ocn (am_oc mi)) "java/lang/String" q js_y_charAt prog_14_method_56_code 2 (some .char) js_w_charAt (js_rm 3) 0 0 1 := ⟨callB_of (Ts := am_gT) 1 X.2.2.2.2.1 (js_good js_c_charAt) rfl rfl rfl (X.2.2.2.2.1 _ (am_gT_of (i := 121) (by decide +kernel) (by decide +kernel))) (X.2.2.2.2.1 _ (am_jl_ok hq)) (by decide +kernel) ⟨by show 3 + 1 ≤ R.frames; omega, by show 8 + (2 + 11) + 40 * 3 ≤ R.locals; omega⟩, (X.2.2.2.2.1 _ (am_gT_of (i := 662) (by decide +kernel) (by decide +kernel))), (X.2.2.2.2.1 _ (am_gT_of (i := 663) (by decide +kernel) (by decide +kernel)))⟩
  refine js_callW (va_runV (Ts := am_gT) (As := [.int (Int32.ofNat j)]) (rest := st.map (am_rv Bz ext)) (C := "java/lang/String") (own := am_ocn (am_oc mi)) (nL := am_mx mi) ⟨X.1, X.2.1, X.2.2.1, X.2.2.2.1, X.2.2.2.2.1⟩ (js_charAt l Bz _ (adV kk0) _ _ hlen j hj ch (by omega) (by show Value.int _ = _; rw [hch])) hcw ⟨js_blind, js_recv hO, fun U hU2 hW => ⟨rfl, hU U hU2 hW⟩⟩ rfl rfl hl.2.1 rfl (by show 2 * 0 + _ ≤ 8; omega) hd ⟨by omega, by omega⟩) ?_
  rw [List.map_cons, am_rv0, hgt, hch] at kk
  exact kk
end AmOps
