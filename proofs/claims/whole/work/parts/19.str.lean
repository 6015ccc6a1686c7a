section AmOps
variable {l : Launch} {D : va_G} {cy : Nat → ClassId} {Bz : Nat} {ext : Int → Nat} {L : Int} {xs : Int → Int} {mi : Nat} {p : Program} {e : Env} {R : Room} {s : State} {m : MethodId} {args : Array Value} {below : List Frame} {meth : Method} {c : Code} {M0 : am_M} {Qf : State → Prop} {pc : Nat} {ls st : List am_V} {M : am_M}
theorem am_s_ldcs (X : am_Cx D cy mi p s m args meth c) {x : Int} {w : Nat} {adV : Nat → Nat} (hEx : am_Ex Bz ext adV L xs s s.heap) (hd : decode (am_by mi) pc = .ok (.ldc w, 2)) (ho : am_oc mi = 3) (hx : x ≤ -10) (hw : am_sr[(-10 - x).toNat]? = some w) (k : (am_At l D cy Bz ext L xs mi p e R s m args below meth c M0 Qf (pc + 2) (ls) ((2, x) :: st) (M))) : (am_At l D cy Bz ext L xs mi p e R s m args below meth c M0 Qf (pc) (ls) (st) (M)) := by
  intro hok hst h1 h2 lr H locs hl hm hlo
  have hk : (-10 - x).toNat < 39 := (List.getElem?_eq_some_iff.mp hw).1
  obtain ⟨q1, -⟩ := hEx.2.1 _ hk
  have kk := k hok (am_SR.cons (v := (2, x)) trivial hst) h1 h2 lr H locs hl hm hlo
  have hown := X.2.2.2.1
  rw [ho] at hown
  rw [List.getD_eq_getElem?_getD, hw] at q1
  rw [List.map_cons, am_rv2n (by omega), show x = -10 - (((-10 - x).toNat : Nat) : Int) by omega] at kk
  exact va_ldcS X.1 X.2.1 hown q1 hd kk

theorem am_s_strlen (X : am_Cx D cy mi p s m args meth c) {a : Int} {q : Nat} {adV : Nat → Nat} (hEx : am_Ex Bz ext adV L xs s s.heap) (hd : decode (am_by mi) pc = .ok (.invokevirtual q, 3)) (hq : (am_oc mi, q, 4) ∈ am_jl) (hfr : 4 ≤ R.frames) (hlc : 400 ≤ R.locals) (hc : am_cw st ≤ 8) (hkd : am_kd M a = 111) (hr1 : M.1 - M0.1 ≤ (R.cells : Int)) (hr2 : M.2.1 - M0.2.1 ≤ (R.slots : Int)) (k : (am_At l D cy Bz ext L xs mi p e R s m args below meth c M0 Qf (pc + 3) (ls) ((0, am_ln M a) :: st) (M))) : (am_At l D cy Bz ext L xs mi p e R s m args below meth c M0 Qf (pc) (ls) ((2, a) :: st) (M)) := by
  intro hok hst h1 h2 lr H locs hl hm hlo
  sorry

theorem am_s_strat (X : am_Cx D cy mi p s m args meth c) {a i : Int} {q : Nat} {adV : Nat → Nat} (hEx : am_Ex Bz ext adV L xs s s.heap) (hd : decode (am_by mi) pc = .ok (.invokevirtual q, 3)) (hq : (am_oc mi, q, 5) ∈ am_jl) (hfr : 4 ≤ R.frames) (hlc : 400 ≤ R.locals) (hc : am_cw st ≤ 8) (hkd : am_kd M a = 111) (h0 : 0 ≤ i) (hi : i < am_ln M a) (hr1 : M.1 - M0.1 ≤ (R.cells : Int)) (hr2 : M.2.1 - M0.2.1 ≤ (R.slots : Int)) (k : (am_At l D cy Bz ext L xs mi p e R s m args below meth c M0 Qf (pc + 3) (ls) ((0, am_gt M a i) :: st) (M))) : (am_At l D cy Bz ext L xs mi p e R s m args below meth c M0 Qf (pc) (ls) ((0, i) :: (2, a) :: st) (M)) := by
  intro hok hst h1 h2 lr H locs hl hm hlo
  sorry
end AmOps
