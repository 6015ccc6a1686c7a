/-! THE INSTRUCTIONS, one by one: what the small machine does, the real one does (printed by wip/tools/ops.py) -/
section AmOps
variable {l : Launch} {D : va_G} {cy : Nat → ClassId} {Bz : Nat} {ext : Int → Nat} {L : Int} {xs : Int → Int} {mi : Nat} {p : Program} {e : Env} {R : Room} {s : State} {m : MethodId} {args : Array Value} {below : List Frame} {meth : Method} {c : Code} {M0 : am_M} {Qf : State → Prop} {pc : Nat} {ls st : List am_V} {M : am_M}
theorem am_s_iconst (X : am_Cx D cy mi p s m args meth c) {x : Int} (hd : decode (am_by mi) pc = .ok (.iconst x, 1)) (hx : am_i32 x) (k : (am_At l D cy Bz ext L xs mi p e R s m args below meth c M0 Qf (pc + 1) (ls) ((0, x) :: st) (M))) : (am_At l D cy Bz ext L xs mi p e R s m args below meth c M0 Qf (pc) (ls) (st) (M)) := by
  intro hok hst h1 h2 lr H locs hl hm hlo
  exact lv_iconst X.1 X.2.1 hd rfl (k hok (am_SR.cons hx hst) h1 h2 lr H locs hl hm hlo)

theorem am_s_bipush (X : am_Cx D cy mi p s m args meth c) {x : Int} (hd : decode (am_by mi) pc = .ok (.bipush x, 2)) (hx : am_i32 x) (he : (Int8.ofInt x).toInt32 = Int32.ofInt x) (k : (am_At l D cy Bz ext L xs mi p e R s m args below meth c M0 Qf (pc + 2) (ls) ((0, x) :: st) (M))) : (am_At l D cy Bz ext L xs mi p e R s m args below meth c M0 Qf (pc) (ls) (st) (M)) := by
  intro hok hst h1 h2 lr H locs hl hm hlo
  exact lv_bipush X.1 X.2.1 hd he (k hok (am_SR.cons hx hst) h1 h2 lr H locs hl hm hlo)

theorem am_s_sipush (X : am_Cx D cy mi p s m args meth c) {x : Int} (hd : decode (am_by mi) pc = .ok (.sipush x, 3)) (hx : am_i32 x) (he : (Int16.ofInt x).toInt32 = Int32.ofInt x) (k : (am_At l D cy Bz ext L xs mi p e R s m args below meth c M0 Qf (pc + 3) (ls) ((0, x) :: st) (M))) : (am_At l D cy Bz ext L xs mi p e R s m args below meth c M0 Qf (pc) (ls) (st) (M)) := by
  intro hok hst h1 h2 lr H locs hl hm hlo
  exact lv_sipush X.1 X.2.1 hd he (k hok (am_SR.cons hx hst) h1 h2 lr H locs hl hm hlo)

theorem am_s_ldc (X : am_Cx D cy mi p s m args meth c) {x : Int} {i : Nat} (hd : decode (am_by mi) pc = .ok (.ldc i, 2)) (hx : am_i32 x) (hq : (am_oc mi, i, x) ∈ am_ki) (k : (am_At l D cy Bz ext L xs mi p e R s m args below meth c M0 Qf (pc + 2) (ls) ((0, x) :: st) (M))) : (am_At l D cy Bz ext L xs mi p e R s m args below meth c M0 Qf (pc) (ls) (st) (M)) := by
  intro hok hst h1 h2 lr H locs hl hm hlo
  exact lv_ldc X.1 X.2.1 X.2.2.2.1 (X.2.2.2.2.1 _ (am_ki_ok hq)) hd (k hok (am_SR.cons hx hst) h1 h2 lr H locs hl hm hlo)

theorem am_s_ldcw (X : am_Cx D cy mi p s m args meth c) {x : Int} {i : Nat} (hd : decode (am_by mi) pc = .ok (.ldc_w i, 3)) (hx : am_i32 x) (hq : (am_oc mi, i, x) ∈ am_ki) (k : (am_At l D cy Bz ext L xs mi p e R s m args below meth c M0 Qf (pc + 3) (ls) ((0, x) :: st) (M))) : (am_At l D cy Bz ext L xs mi p e R s m args below meth c M0 Qf (pc) (ls) (st) (M)) := by
  intro hok hst h1 h2 lr H locs hl hm hlo
  exact lv_ldcw X.1 X.2.1 X.2.2.2.1 (X.2.2.2.2.1 _ (am_ki_ok hq)) hd (k hok (am_SR.cons hx hst) h1 h2 lr H locs hl hm hlo)

theorem am_s_ldc2 (X : am_Cx D cy mi p s m args meth c) {x : Int} {i : Nat} (hd : decode (am_by mi) pc = .ok (.ldc2_w i, 3)) (hx : am_i64 x) (hq : (am_oc mi, i, x) ∈ am_kl) (k : (am_At l D cy Bz ext L xs mi p e R s m args below meth c M0 Qf (pc + 3) (ls) ((1, x) :: st) (M))) : (am_At l D cy Bz ext L xs mi p e R s m args below meth c M0 Qf (pc) (ls) (st) (M)) := by
  intro hok hst h1 h2 lr H locs hl hm hlo
  exact lv_ldc2 X.1 X.2.1 X.2.2.2.1 (X.2.2.2.2.1 _ (am_kl_ok hq)) hd (k hok (am_SR.cons hx hst) h1 h2 lr H locs hl hm hlo)

theorem am_s_lconst (X : am_Cx D cy mi p s m args meth c) {x : Int} {n : Fin 2} (hd : decode (am_by mi) pc = .ok (.lconst n, 1)) (hx : am_i64 x) (he : Int64.ofNat (n : Nat) = Int64.ofInt x) (k : (am_At l D cy Bz ext L xs mi p e R s m args below meth c M0 Qf (pc + 1) (ls) ((1, x) :: st) (M))) : (am_At l D cy Bz ext L xs mi p e R s m args below meth c M0 Qf (pc) (ls) (st) (M)) := by
  intro hok hst h1 h2 lr H locs hl hm hlo
  exact lv_lconst X.1 X.2.1 hd he (k hok (am_SR.cons hx hst) h1 h2 lr H locs hl hm hlo)

theorem am_s_null (X : am_Cx D cy mi p s m args meth c) (hd : decode (am_by mi) pc = .ok (.aconst_null, 1)) (k : (am_At l D cy Bz ext L xs mi p e R s m args below meth c M0 Qf (pc + 1) (ls) ((2, -1) :: st) (M))) : (am_At l D cy Bz ext L xs mi p e R s m args below meth c M0 Qf (pc) (ls) (st) (M)) := by
  intro hok hst h1 h2 lr H locs hl hm hlo
  exact lv_null X.1 X.2.1 hd (k hok (am_SR.cons trivial hst) h1 h2 lr H locs hl hm hlo)

theorem am_s_iload (X : am_Cx D cy mi p s m args meth c) {n : Nat} {v : Int} (hd : decode (am_by mi) pc = .ok (.iload n, 2)) (hg : ls.getD n (9, 0) = (0, v)) (k : (am_At l D cy Bz ext L xs mi p e R s m args below meth c M0 Qf (pc + 2) (ls) ((0, v) :: st) (M))) : (am_At l D cy Bz ext L xs mi p e R s m args below meth c M0 Qf (pc) (ls) (st) (M)) := by
  intro hok hst h1 h2 lr H locs hl hm hlo
  obtain ⟨g1, g2⟩ := hl.get hg (by decide)
  exact lv_iload X.1 X.2.1 hd g2 (k hok (am_SR.cons g1 hst) h1 h2 lr H locs hl hm hlo)

theorem am_s_iloadn (X : am_Cx D cy mi p s m args meth c) {n : Nat} {v : Int} (hd : decode (am_by mi) pc = .ok (.iload_n (Fin.ofNat 4 n), 1)) (hn : n < 4) (hg : ls.getD n (9, 0) = (0, v)) (k : (am_At l D cy Bz ext L xs mi p e R s m args below meth c M0 Qf (pc + 1) (ls) ((0, v) :: st) (M))) : (am_At l D cy Bz ext L xs mi p e R s m args below meth c M0 Qf (pc) (ls) (st) (M)) := by
  intro hok hst h1 h2 lr H locs hl hm hlo
  obtain ⟨g1, g2⟩ := hl.get hg (by decide)
  exact lv_iload_n X.1 X.2.1 hd (Nat.mod_eq_of_lt hn) g2 (k hok (am_SR.cons g1 hst) h1 h2 lr H locs hl hm hlo)

theorem am_s_lload (X : am_Cx D cy mi p s m args meth c) {n : Nat} {v : Int} (hd : decode (am_by mi) pc = .ok (.lload n, 2)) (hg : ls.getD n (9, 0) = (1, v)) (k : (am_At l D cy Bz ext L xs mi p e R s m args below meth c M0 Qf (pc + 2) (ls) ((1, v) :: st) (M))) : (am_At l D cy Bz ext L xs mi p e R s m args below meth c M0 Qf (pc) (ls) (st) (M)) := by
  intro hok hst h1 h2 lr H locs hl hm hlo
  obtain ⟨g1, g2⟩ := hl.get hg (by decide)
  exact lv_lload X.1 X.2.1 hd g2 (k hok (am_SR.cons g1 hst) h1 h2 lr H locs hl hm hlo)

theorem am_s_lloadn (X : am_Cx D cy mi p s m args meth c) {n : Nat} {v : Int} (hd : decode (am_by mi) pc = .ok (.lload_n (Fin.ofNat 4 n), 1)) (hn : n < 4) (hg : ls.getD n (9, 0) = (1, v)) (k : (am_At l D cy Bz ext L xs mi p e R s m args below meth c M0 Qf (pc + 1) (ls) ((1, v) :: st) (M))) : (am_At l D cy Bz ext L xs mi p e R s m args below meth c M0 Qf (pc) (ls) (st) (M)) := by
  intro hok hst h1 h2 lr H locs hl hm hlo
  obtain ⟨g1, g2⟩ := hl.get hg (by decide)
  exact lv_lload_n X.1 X.2.1 hd (Nat.mod_eq_of_lt hn) g2 (k hok (am_SR.cons g1 hst) h1 h2 lr H locs hl hm hlo)

theorem am_s_aload (X : am_Cx D cy mi p s m args meth c) {n : Nat} {v : Int} (hd : decode (am_by mi) pc = .ok (.aload n, 2)) (hg : ls.getD n (9, 0) = (2, v)) (k : (am_At l D cy Bz ext L xs mi p e R s m args below meth c M0 Qf (pc + 2) (ls) ((2, v) :: st) (M))) : (am_At l D cy Bz ext L xs mi p e R s m args below meth c M0 Qf (pc) (ls) (st) (M)) := by
  intro hok hst h1 h2 lr H locs hl hm hlo
  obtain ⟨g1, g2⟩ := hl.get hg (by decide)
  have kk := k hok (am_SR.cons g1 hst) h1 h2 lr H locs hl hm hlo
  rw [am_rv2] at g2
  rw [List.map_cons, am_rv2] at kk
  cases hr : am_rr Bz ext v with
  | none => rw [hr] at g2 kk; exact lv_aloadN X.1 X.2.1 hd g2 kk
  | some a => rw [hr] at g2 kk; exact lv_aload X.1 X.2.1 hd g2 kk

theorem am_s_aloadn (X : am_Cx D cy mi p s m args meth c) {n : Nat} {v : Int} (hd : decode (am_by mi) pc = .ok (.aload_n (Fin.ofNat 4 n), 1)) (hn : n < 4) (hg : ls.getD n (9, 0) = (2, v)) (k : (am_At l D cy Bz ext L xs mi p e R s m args below meth c M0 Qf (pc + 1) (ls) ((2, v) :: st) (M))) : (am_At l D cy Bz ext L xs mi p e R s m args below meth c M0 Qf (pc) (ls) (st) (M)) := by
  intro hok hst h1 h2 lr H locs hl hm hlo
  obtain ⟨g1, g2⟩ := hl.get hg (by decide)
  have kk := k hok (am_SR.cons g1 hst) h1 h2 lr H locs hl hm hlo
  rw [am_rv2] at g2
  rw [List.map_cons, am_rv2] at kk
  cases hr : am_rr Bz ext v with
  | none => rw [hr] at g2 kk; exact lv_aload_nN X.1 X.2.1 hd (Nat.mod_eq_of_lt hn) g2 kk
  | some a => rw [hr] at g2 kk; exact lv_aload_n X.1 X.2.1 hd (Nat.mod_eq_of_lt hn) g2 kk

theorem am_s_istore (X : am_Cx D cy mi p s m args meth c) {n : Nat} {v : Int} (hd : decode (am_by mi) pc = .ok (.istore n, 2)) (hn : n < am_mx mi) (k : (am_At l D cy Bz ext L xs mi p e R s m args below meth c M0 Qf (pc + 2) (am_sto ls n (0, v)) (st) (M))) : (am_At l D cy Bz ext L xs mi p e R s m args below meth c M0 Qf (pc) (ls) ((0, v) :: st) (M)) := by
  intro hok hst h1 h2 lr H locs hl hm hlo
  exact lv_istore X.1 X.2.1 hd hl.has hn rfl (fun lr2 hh => k hok hst.tl h1 h2 lr2 H locs (am_LR.sto hl.1 hl.vks hst.hd hn rfl hh) hm hlo)

theorem am_s_istoren (X : am_Cx D cy mi p s m args meth c) {n : Nat} {v : Int} (hd : decode (am_by mi) pc = .ok (.istore_n (Fin.ofNat 4 n), 1)) (h4 : n < 4) (hn : n < am_mx mi) (k : (am_At l D cy Bz ext L xs mi p e R s m args below meth c M0 Qf (pc + 1) (am_sto ls n (0, v)) (st) (M))) : (am_At l D cy Bz ext L xs mi p e R s m args below meth c M0 Qf (pc) (ls) ((0, v) :: st) (M)) := by
  intro hok hst h1 h2 lr H locs hl hm hlo
  exact lv_istore_n X.1 X.2.1 hd (Nat.mod_eq_of_lt h4) hl.has hn rfl (fun lr2 hh => k hok hst.tl h1 h2 lr2 H locs (am_LR.sto hl.1 hl.vks hst.hd hn rfl hh) hm hlo)

theorem am_s_lstore (X : am_Cx D cy mi p s m args meth c) {n : Nat} {v : Int} (hd : decode (am_by mi) pc = .ok (.lstore n, 2)) (hn : n + 1 < am_mx mi) (k : (am_At l D cy Bz ext L xs mi p e R s m args below meth c M0 Qf (pc + 2) (am_stl ls n (1, v)) (st) (M))) : (am_At l D cy Bz ext L xs mi p e R s m args below meth c M0 Qf (pc) (ls) ((1, v) :: st) (M)) := by
  intro hok hst h1 h2 lr H locs hl hm hlo
  exact lv_lstore X.1 X.2.1 hd hl.has hn rfl (fun lr2 hh => k hok hst.tl h1 h2 lr2 H locs (am_LR.stl hl.1 hl.vks hst.hd hn rfl hh) hm hlo)

theorem am_s_lstoren (X : am_Cx D cy mi p s m args meth c) {n : Nat} {v : Int} (hd : decode (am_by mi) pc = .ok (.lstore_n (Fin.ofNat 4 n), 1)) (h4 : n < 4) (hn : n + 1 < am_mx mi) (k : (am_At l D cy Bz ext L xs mi p e R s m args below meth c M0 Qf (pc + 1) (am_stl ls n (1, v)) (st) (M))) : (am_At l D cy Bz ext L xs mi p e R s m args below meth c M0 Qf (pc) (ls) ((1, v) :: st) (M)) := by
  intro hok hst h1 h2 lr H locs hl hm hlo
  exact lv_lstore_n X.1 X.2.1 hd (Nat.mod_eq_of_lt h4) hl.has hn rfl (fun lr2 hh => k hok hst.tl h1 h2 lr2 H locs (am_LR.stl hl.1 hl.vks hst.hd hn rfl hh) hm hlo)

theorem am_s_astore (X : am_Cx D cy mi p s m args meth c) {n : Nat} {v : Int} (hd : decode (am_by mi) pc = .ok (.astore n, 2)) (hn : n < am_mx mi) (k : (am_At l D cy Bz ext L xs mi p e R s m args below meth c M0 Qf (pc + 2) (am_sto ls n (2, v)) (st) (M))) : (am_At l D cy Bz ext L xs mi p e R s m args below meth c M0 Qf (pc) (ls) ((2, v) :: st) (M)) := by
  intro hok hst h1 h2 lr H locs hl hm hlo
  have key : ∀ lr2, lv_has lr2 (am_mx mi) ((n, am_rv Bz ext (2, v)) :: (am_kn Bz ext ls).filter (fun q => !(q.1 == n) && !(q.1 + 1 == n && q.2.category == 2))) → _ := fun lr2 hh => k hok hst.tl h1 h2 lr2 H locs (am_LR.sto hl.1 hl.vks hst.hd hn rfl hh) hm hlo
  rw [List.map_cons, am_rv2]
  rw [am_rv2] at key
  cases hr : am_rr Bz ext v with
  | none => rw [hr] at key; exact lv_astoreN X.1 X.2.1 hd hl.has hn rfl key
  | some a => rw [hr] at key; exact lv_astore X.1 X.2.1 hd hl.has hn rfl key

theorem am_s_astoren (X : am_Cx D cy mi p s m args meth c) {n : Nat} {v : Int} (hd : decode (am_by mi) pc = .ok (.astore_n (Fin.ofNat 4 n), 1)) (h4 : n < 4) (hn : n < am_mx mi) (k : (am_At l D cy Bz ext L xs mi p e R s m args below meth c M0 Qf (pc + 1) (am_sto ls n (2, v)) (st) (M))) : (am_At l D cy Bz ext L xs mi p e R s m args below meth c M0 Qf (pc) (ls) ((2, v) :: st) (M)) := by
  intro hok hst h1 h2 lr H locs hl hm hlo
  have key : ∀ lr2, lv_has lr2 (am_mx mi) ((n, am_rv Bz ext (2, v)) :: (am_kn Bz ext ls).filter (fun q => !(q.1 == n) && !(q.1 + 1 == n && q.2.category == 2))) → _ := fun lr2 hh => k hok hst.tl h1 h2 lr2 H locs (am_LR.sto hl.1 hl.vks hst.hd hn rfl hh) hm hlo
  rw [List.map_cons, am_rv2]
  rw [am_rv2] at key
  cases hr : am_rr Bz ext v with
  | none => rw [hr] at key; exact lv_astore_nN X.1 X.2.1 hd (Nat.mod_eq_of_lt h4) hl.has hn rfl key
  | some a => rw [hr] at key; exact lv_astore_n X.1 X.2.1 hd (Nat.mod_eq_of_lt h4) hl.has hn rfl key

theorem am_s_iinc (X : am_Cx D cy mi p s m args meth c) {n : Nat} {x v : Int} (hd : decode (am_by mi) pc = .ok (.iinc n x, 3)) (hn : n < am_mx mi) (hg : ls.getD n (9, 0) = (0, v)) (k : (am_At l D cy Bz ext L xs mi p e R s m args below meth c M0 Qf (pc + 3) (am_sto ls n (0, am_w (v + x))) (st) (M))) : (am_At l D cy Bz ext L xs mi p e R s m args below meth c M0 Qf (pc) (ls) (st) (M)) := by
  intro hok hst h1 h2 lr H locs hl hm hlo
  have hmem : (n, am_rv Bz ext (0, v)) ∈ am_kn Bz ext ls := by
    refine am_kn_mem.mpr ⟨(0, v), ?_, (by show (0 : Nat) ≠ 9; decide), rfl⟩
    cases hv : ls[n]? with
    | none => rw [List.getD_eq_getElem?_getD, hv] at hg; cases hg
    | some y => rw [List.getD_eq_getElem?_getD, hv] at hg; exact congrArg some hg
  obtain ⟨q, hq⟩ := List.getElem?_of_mem hmem
  exact lv_iinc (v := Int32.ofInt (am_w (v + x))) X.1 X.2.1 hd hl.has hq (by rw [am_w_ofInt, Int32.ofInt_add]) hn rfl (fun lr2 hh => k hok hst h1 h2 lr2 H locs (am_LR.sto (v := (0, am_w (v + x))) hl.1 hl.vks (am_w_in _) hn rfl hh) hm hlo)

theorem am_s_dup0 (X : am_Cx D cy mi p s m args meth c) {v : Int} (hd : decode (am_by mi) pc = .ok (.dup, 1)) (k : (am_At l D cy Bz ext L xs mi p e R s m args below meth c M0 Qf (pc + 1) (ls) ((0, v) :: (0, v) :: st) (M))) : (am_At l D cy Bz ext L xs mi p e R s m args below meth c M0 Qf (pc) (ls) ((0, v) :: st) (M)) := by
  intro hok hst h1 h2 lr H locs hl hm hlo
  exact lv_dup X.1 X.2.1 hd rfl (k hok (am_SR.cons hst.hd hst) h1 h2 lr H locs hl hm hlo)

theorem am_s_dup2r (X : am_Cx D cy mi p s m args meth c) {v : Int} (hd : decode (am_by mi) pc = .ok (.dup, 1)) (k : (am_At l D cy Bz ext L xs mi p e R s m args below meth c M0 Qf (pc + 1) (ls) ((2, v) :: (2, v) :: st) (M))) : (am_At l D cy Bz ext L xs mi p e R s m args below meth c M0 Qf (pc) (ls) ((2, v) :: st) (M)) := by
  intro hok hst h1 h2 lr H locs hl hm hlo
  exact lv_dup X.1 X.2.1 hd (am_cat_of Bz ext (v := (2, v)) trivial) (k hok (am_SR.cons hst.hd hst) h1 h2 lr H locs hl hm hlo)

theorem am_s_dup2 (X : am_Cx D cy mi p s m args meth c) {i a : Int} (hd : decode (am_by mi) pc = .ok (.dup2, 1)) (k : (am_At l D cy Bz ext L xs mi p e R s m args below meth c M0 Qf (pc + 1) (ls) ((0, i) :: (2, a) :: (0, i) :: (2, a) :: st) (M))) : (am_At l D cy Bz ext L xs mi p e R s m args below meth c M0 Qf (pc) (ls) ((0, i) :: (2, a) :: st) (M)) := by
  intro hok hst h1 h2 lr H locs hl hm hlo
  exact lv_dup2_11 X.1 X.2.1 hd rfl (am_cat_of Bz ext (v := (2, a)) trivial) (k hok (am_SR.cons hst.hd (am_SR.cons trivial hst)) h1 h2 lr H locs hl hm hlo)

theorem am_s_pop0 (X : am_Cx D cy mi p s m args meth c) {v : Int} (hd : decode (am_by mi) pc = .ok (.pop, 1)) (k : (am_At l D cy Bz ext L xs mi p e R s m args below meth c M0 Qf (pc + 1) (ls) (st) (M))) : (am_At l D cy Bz ext L xs mi p e R s m args below meth c M0 Qf (pc) (ls) ((0, v) :: st) (M)) := by
  intro hok hst h1 h2 lr H locs hl hm hlo
  exact lv_pop X.1 X.2.1 hd rfl (k hok hst.tl h1 h2 lr H locs hl hm hlo)

theorem am_s_pop2 (X : am_Cx D cy mi p s m args meth c) {v : Int} (hd : decode (am_by mi) pc = .ok (.pop, 1)) (k : (am_At l D cy Bz ext L xs mi p e R s m args below meth c M0 Qf (pc + 1) (ls) (st) (M))) : (am_At l D cy Bz ext L xs mi p e R s m args below meth c M0 Qf (pc) (ls) ((2, v) :: st) (M)) := by
  intro hok hst h1 h2 lr H locs hl hm hlo
  exact lv_pop X.1 X.2.1 hd (am_cat_of Bz ext (v := (2, v)) trivial) (k hok hst.tl h1 h2 lr H locs hl hm hlo)

theorem am_s_iadd (X : am_Cx D cy mi p s m args meth c) {a b : Int} (hd : decode (am_by mi) pc = .ok (.iadd, 1)) (k : (am_At l D cy Bz ext L xs mi p e R s m args below meth c M0 Qf (pc + 1) (ls) ((0, am_w (a + b)) :: st) (M))) : (am_At l D cy Bz ext L xs mi p e R s m args below meth c M0 Qf (pc) (ls) ((0, b) :: (0, a) :: st) (M)) := by
  intro hok hst h1 h2 lr H locs hl hm hlo
  have hb : am_i32 b := hst.hd
  have ha : am_i32 a := hst.tl.hd
  have kk := k hok (am_SR.cons (v := (0, am_w (a + b))) (am_w_in _) hst.tl.tl) h1 h2 lr H locs hl hm hlo
  refine lv_iadd X.1 X.2.1 hd ?_
  rw [show Int32.ofInt a + Int32.ofInt b = Int32.ofInt (am_w (a + b)) by rw [am_w_ofInt, Int32.ofInt_add]]
  exact kk

theorem am_s_isub (X : am_Cx D cy mi p s m args meth c) {a b : Int} (hd : decode (am_by mi) pc = .ok (.isub, 1)) (k : (am_At l D cy Bz ext L xs mi p e R s m args below meth c M0 Qf (pc + 1) (ls) ((0, am_w (a - b)) :: st) (M))) : (am_At l D cy Bz ext L xs mi p e R s m args below meth c M0 Qf (pc) (ls) ((0, b) :: (0, a) :: st) (M)) := by
  intro hok hst h1 h2 lr H locs hl hm hlo
  have hb : am_i32 b := hst.hd
  have ha : am_i32 a := hst.tl.hd
  have kk := k hok (am_SR.cons (v := (0, am_w (a - b))) (am_w_in _) hst.tl.tl) h1 h2 lr H locs hl hm hlo
  refine lv_isub X.1 X.2.1 hd ?_
  rw [show Int32.ofInt a - Int32.ofInt b = Int32.ofInt (am_w (a - b)) by rw [am_w_ofInt, Int32.ofInt_sub]]
  exact kk

theorem am_s_imul (X : am_Cx D cy mi p s m args meth c) {a b : Int} (hd : decode (am_by mi) pc = .ok (.imul, 1)) (k : (am_At l D cy Bz ext L xs mi p e R s m args below meth c M0 Qf (pc + 1) (ls) ((0, am_w (a * b)) :: st) (M))) : (am_At l D cy Bz ext L xs mi p e R s m args below meth c M0 Qf (pc) (ls) ((0, b) :: (0, a) :: st) (M)) := by
  intro hok hst h1 h2 lr H locs hl hm hlo
  have hb : am_i32 b := hst.hd
  have ha : am_i32 a := hst.tl.hd
  have kk := k hok (am_SR.cons (v := (0, am_w (a * b))) (am_w_in _) hst.tl.tl) h1 h2 lr H locs hl hm hlo
  refine lv_imul X.1 X.2.1 hd ?_
  rw [show Int32.ofInt a * Int32.ofInt b = Int32.ofInt (am_w (a * b)) by rw [am_w_ofInt, Int32.ofInt_mul]]
  exact kk

theorem am_s_idiv (X : am_Cx D cy mi p s m args meth c) {a b : Int} (hd : decode (am_by mi) pc = .ok (.idiv, 1)) (hne : b ≠ 0) (k : (am_At l D cy Bz ext L xs mi p e R s m args below meth c M0 Qf (pc + 1) (ls) ((0, am_w (a.tdiv b)) :: st) (M))) : (am_At l D cy Bz ext L xs mi p e R s m args below meth c M0 Qf (pc) (ls) ((0, b) :: (0, a) :: st) (M)) := by
  intro hok hst h1 h2 lr H locs hl hm hlo
  have hb : am_i32 b := hst.hd
  have ha : am_i32 a := hst.tl.hd
  have kk := k hok (am_SR.cons (v := (0, am_w (a.tdiv b))) (am_w_in _) hst.tl.tl) h1 h2 lr H locs hl hm hlo
  refine lv_idiv X.1 X.2.1 hd (fun h => hne ((am_eq32 hb am_i32_0).mp h)) ?_
  rw [am_div32 ha hb]
  exact kk

theorem am_s_irem (X : am_Cx D cy mi p s m args meth c) {a b : Int} (hd : decode (am_by mi) pc = .ok (.irem, 1)) (hne : b ≠ 0) (k : (am_At l D cy Bz ext L xs mi p e R s m args below meth c M0 Qf (pc + 1) (ls) ((0, a.tmod b) :: st) (M))) : (am_At l D cy Bz ext L xs mi p e R s m args below meth c M0 Qf (pc) (ls) ((0, b) :: (0, a) :: st) (M)) := by
  intro hok hst h1 h2 lr H locs hl hm hlo
  have hb : am_i32 b := hst.hd
  have ha : am_i32 a := hst.tl.hd
  have kk := k hok (am_SR.cons (v := (0, a.tmod b)) (am_tmod_in ha) hst.tl.tl) h1 h2 lr H locs hl hm hlo
  refine lv_irem X.1 X.2.1 hd (fun h => hne ((am_eq32 hb am_i32_0).mp h)) ?_
  rw [am_rem32 ha hb]
  exact kk

theorem am_s_iand (X : am_Cx D cy mi p s m args meth c) {a b : Int} (hd : decode (am_by mi) pc = .ok (.iand, 1)) (k : (am_At l D cy Bz ext L xs mi p e R s m args below meth c M0 Qf (pc + 1) (ls) ((0, am_and a b) :: st) (M))) : (am_At l D cy Bz ext L xs mi p e R s m args below meth c M0 Qf (pc) (ls) ((0, b) :: (0, a) :: st) (M)) := by
  intro hok hst h1 h2 lr H locs hl hm hlo
  have hb : am_i32 b := hst.hd
  have ha : am_i32 a := hst.tl.hd
  have kk := k hok (am_SR.cons (v := (0, am_and a b)) (am_i32_of _) hst.tl.tl) h1 h2 lr H locs hl hm hlo
  refine lv_iand X.1 X.2.1 hd ?_
  rw [show Int32.ofInt a &&& Int32.ofInt b = Int32.ofInt (am_and a b) from (Int32.ofInt_toInt _).symm]
  exact kk

theorem am_s_ior (X : am_Cx D cy mi p s m args meth c) {a b : Int} (hd : decode (am_by mi) pc = .ok (.ior, 1)) (k : (am_At l D cy Bz ext L xs mi p e R s m args below meth c M0 Qf (pc + 1) (ls) ((0, am_or a b) :: st) (M))) : (am_At l D cy Bz ext L xs mi p e R s m args below meth c M0 Qf (pc) (ls) ((0, b) :: (0, a) :: st) (M)) := by
  intro hok hst h1 h2 lr H locs hl hm hlo
  have hb : am_i32 b := hst.hd
  have ha : am_i32 a := hst.tl.hd
  have kk := k hok (am_SR.cons (v := (0, am_or a b)) (am_i32_of _) hst.tl.tl) h1 h2 lr H locs hl hm hlo
  refine lv_ior X.1 X.2.1 hd ?_
  rw [show Int32.ofInt a ||| Int32.ofInt b = Int32.ofInt (am_or a b) from (Int32.ofInt_toInt _).symm]
  exact kk

theorem am_s_ixor (X : am_Cx D cy mi p s m args meth c) {a b : Int} (hd : decode (am_by mi) pc = .ok (.ixor, 1)) (k : (am_At l D cy Bz ext L xs mi p e R s m args below meth c M0 Qf (pc + 1) (ls) ((0, am_xor a b) :: st) (M))) : (am_At l D cy Bz ext L xs mi p e R s m args below meth c M0 Qf (pc) (ls) ((0, b) :: (0, a) :: st) (M)) := by
  intro hok hst h1 h2 lr H locs hl hm hlo
  have hb : am_i32 b := hst.hd
  have ha : am_i32 a := hst.tl.hd
  have kk := k hok (am_SR.cons (v := (0, am_xor a b)) (am_i32_of _) hst.tl.tl) h1 h2 lr H locs hl hm hlo
  refine lv_ixor X.1 X.2.1 hd ?_
  rw [show Int32.ofInt a ^^^ Int32.ofInt b = Int32.ofInt (am_xor a b) from (Int32.ofInt_toInt _).symm]
  exact kk

theorem am_s_ishl (X : am_Cx D cy mi p s m args meth c) {a b : Int} (hd : decode (am_by mi) pc = .ok (.ishl, 1)) (k : (am_At l D cy Bz ext L xs mi p e R s m args below meth c M0 Qf (pc + 1) (ls) ((0, am_shl a b) :: st) (M))) : (am_At l D cy Bz ext L xs mi p e R s m args below meth c M0 Qf (pc) (ls) ((0, b) :: (0, a) :: st) (M)) := by
  intro hok hst h1 h2 lr H locs hl hm hlo
  have hb : am_i32 b := hst.hd
  have ha : am_i32 a := hst.tl.hd
  have kk := k hok (am_SR.cons (v := (0, am_shl a b)) (am_i32_of _) hst.tl.tl) h1 h2 lr H locs hl hm hlo
  refine lv_ishl X.1 X.2.1 hd ?_
  rw [show Int32.ofInt a <<< (Int32.ofInt b &&& 31) = Int32.ofInt (am_shl a b) from (Int32.ofInt_toInt _).symm]
  exact kk

theorem am_s_ishr (X : am_Cx D cy mi p s m args meth c) {a b : Int} (hd : decode (am_by mi) pc = .ok (.ishr, 1)) (k : (am_At l D cy Bz ext L xs mi p e R s m args below meth c M0 Qf (pc + 1) (ls) ((0, am_shr a b) :: st) (M))) : (am_At l D cy Bz ext L xs mi p e R s m args below meth c M0 Qf (pc) (ls) ((0, b) :: (0, a) :: st) (M)) := by
  intro hok hst h1 h2 lr H locs hl hm hlo
  have hb : am_i32 b := hst.hd
  have ha : am_i32 a := hst.tl.hd
  have kk := k hok (am_SR.cons (v := (0, am_shr a b)) (am_i32_of _) hst.tl.tl) h1 h2 lr H locs hl hm hlo
  refine lv_ishr X.1 X.2.1 hd ?_
  rw [show Int32.ofInt a >>> (Int32.ofInt b &&& 31) = Int32.ofInt (am_shr a b) from (Int32.ofInt_toInt _).symm]
  exact kk

theorem am_s_iushr (X : am_Cx D cy mi p s m args meth c) {a b : Int} (hd : decode (am_by mi) pc = .ok (.iushr, 1)) (k : (am_At l D cy Bz ext L xs mi p e R s m args below meth c M0 Qf (pc + 1) (ls) ((0, am_ushr a b) :: st) (M))) : (am_At l D cy Bz ext L xs mi p e R s m args below meth c M0 Qf (pc) (ls) ((0, b) :: (0, a) :: st) (M)) := by
  intro hok hst h1 h2 lr H locs hl hm hlo
  exact lv_iushr X.1 X.2.1 hd (Int32.ofInt_toInt _).symm (k hok (am_SR.cons (v := (0, am_ushr a b)) (am_i32_of _) hst.tl.tl) h1 h2 lr H locs hl hm hlo)

theorem am_s_ineg (X : am_Cx D cy mi p s m args meth c) {a : Int} (hd : decode (am_by mi) pc = .ok (.ineg, 1)) (k : (am_At l D cy Bz ext L xs mi p e R s m args below meth c M0 Qf (pc + 1) (ls) ((0, am_w (-a)) :: st) (M))) : (am_At l D cy Bz ext L xs mi p e R s m args below meth c M0 Qf (pc) (ls) ((0, a) :: st) (M)) := by
  intro hok hst h1 h2 lr H locs hl hm hlo
  have kk := k hok (am_SR.cons (v := (0, am_w (-a))) (am_w_in _) hst.tl) h1 h2 lr H locs hl hm hlo
  refine lv_ineg X.1 X.2.1 hd ?_
  rw [show -Int32.ofInt a = Int32.ofInt (am_w (-a)) by rw [am_w_ofInt, Int32.ofInt_neg]]
  exact kk

theorem am_s_ladd (X : am_Cx D cy mi p s m args meth c) {a b : Int} (hd : decode (am_by mi) pc = .ok (.ladd, 1)) (k : (am_At l D cy Bz ext L xs mi p e R s m args below meth c M0 Qf (pc + 1) (ls) ((1, am_wl (a + b)) :: st) (M))) : (am_At l D cy Bz ext L xs mi p e R s m args below meth c M0 Qf (pc) (ls) ((1, b) :: (1, a) :: st) (M)) := by
  intro hok hst h1 h2 lr H locs hl hm hlo
  have hb : am_i64 b := hst.hd
  have ha : am_i64 a := hst.tl.hd
  have kk := k hok (am_SR.cons (v := (1, am_wl (a + b))) (am_wl_in _) hst.tl.tl) h1 h2 lr H locs hl hm hlo
  refine lv_ladd X.1 X.2.1 hd ?_
  rw [show Int64.ofInt a + Int64.ofInt b = Int64.ofInt (am_wl (a + b)) by rw [am_wl_ofInt, Int64.ofInt_add]]
  exact kk

theorem am_s_lsub (X : am_Cx D cy mi p s m args meth c) {a b : Int} (hd : decode (am_by mi) pc = .ok (.lsub, 1)) (k : (am_At l D cy Bz ext L xs mi p e R s m args below meth c M0 Qf (pc + 1) (ls) ((1, am_wl (a - b)) :: st) (M))) : (am_At l D cy Bz ext L xs mi p e R s m args below meth c M0 Qf (pc) (ls) ((1, b) :: (1, a) :: st) (M)) := by
  intro hok hst h1 h2 lr H locs hl hm hlo
  have hb : am_i64 b := hst.hd
  have ha : am_i64 a := hst.tl.hd
  have kk := k hok (am_SR.cons (v := (1, am_wl (a - b))) (am_wl_in _) hst.tl.tl) h1 h2 lr H locs hl hm hlo
  refine lv_lsub X.1 X.2.1 hd ?_
  rw [show Int64.ofInt a - Int64.ofInt b = Int64.ofInt (am_wl (a - b)) by rw [am_wl_ofInt, Int64.ofInt_sub]]
  exact kk

theorem am_s_lmul (X : am_Cx D cy mi p s m args meth c) {a b : Int} (hd : decode (am_by mi) pc = .ok (.lmul, 1)) (k : (am_At l D cy Bz ext L xs mi p e R s m args below meth c M0 Qf (pc + 1) (ls) ((1, am_wl (a * b)) :: st) (M))) : (am_At l D cy Bz ext L xs mi p e R s m args below meth c M0 Qf (pc) (ls) ((1, b) :: (1, a) :: st) (M)) := by
  intro hok hst h1 h2 lr H locs hl hm hlo
  have hb : am_i64 b := hst.hd
  have ha : am_i64 a := hst.tl.hd
  have kk := k hok (am_SR.cons (v := (1, am_wl (a * b))) (am_wl_in _) hst.tl.tl) h1 h2 lr H locs hl hm hlo
  refine lv_lmul X.1 X.2.1 hd ?_
  rw [show Int64.ofInt a * Int64.ofInt b = Int64.ofInt (am_wl (a * b)) by rw [am_wl_ofInt, Int64.ofInt_mul]]
  exact kk

theorem am_s_ldiv (X : am_Cx D cy mi p s m args meth c) {a b : Int} (hd : decode (am_by mi) pc = .ok (.ldiv, 1)) (hne : b ≠ 0) (k : (am_At l D cy Bz ext L xs mi p e R s m args below meth c M0 Qf (pc + 1) (ls) ((1, am_wl (a.tdiv b)) :: st) (M))) : (am_At l D cy Bz ext L xs mi p e R s m args below meth c M0 Qf (pc) (ls) ((1, b) :: (1, a) :: st) (M)) := by
  intro hok hst h1 h2 lr H locs hl hm hlo
  have hb : am_i64 b := hst.hd
  have ha : am_i64 a := hst.tl.hd
  have kk := k hok (am_SR.cons (v := (1, am_wl (a.tdiv b))) (am_wl_in _) hst.tl.tl) h1 h2 lr H locs hl hm hlo
  refine lv_ldiv X.1 X.2.1 hd (fun h => hne ((am_eq64 hb (by unfold am_i64; omega)).mp h)) ?_
  rw [am_div64 ha hb]
  exact kk

theorem am_s_lrem (X : am_Cx D cy mi p s m args meth c) {a b : Int} (hd : decode (am_by mi) pc = .ok (.lrem, 1)) (hne : b ≠ 0) (k : (am_At l D cy Bz ext L xs mi p e R s m args below meth c M0 Qf (pc + 1) (ls) ((1, a.tmod b) :: st) (M))) : (am_At l D cy Bz ext L xs mi p e R s m args below meth c M0 Qf (pc) (ls) ((1, b) :: (1, a) :: st) (M)) := by
  intro hok hst h1 h2 lr H locs hl hm hlo
  have hb : am_i64 b := hst.hd
  have ha : am_i64 a := hst.tl.hd
  have kk := k hok (am_SR.cons (v := (1, a.tmod b)) (am_tmod_inl ha) hst.tl.tl) h1 h2 lr H locs hl hm hlo
  refine lv_lrem X.1 X.2.1 hd (fun h => hne ((am_eq64 hb (by unfold am_i64; omega)).mp h)) ?_
  rw [am_rem64 ha hb]
  exact kk

theorem am_s_lcmp (X : am_Cx D cy mi p s m args meth c) {a b : Int} (hd : decode (am_by mi) pc = .ok (.lcmp, 1)) (k : (am_At l D cy Bz ext L xs mi p e R s m args below meth c M0 Qf (pc + 1) (ls) ((0, am_lcmp a b) :: st) (M))) : (am_At l D cy Bz ext L xs mi p e R s m args below meth c M0 Qf (pc) (ls) ((1, b) :: (1, a) :: st) (M)) := by
  intro hok hst h1 h2 lr H locs hl hm hlo
  have hb : am_i64 b := hst.hd
  have ha : am_i64 a := hst.tl.hd
  have kk := k hok (am_SR.cons (v := (0, am_lcmp a b)) (by show am_i32 (am_lcmp a b); unfold am_lcmp am_i32; split <;> (try split) <;> omega) hst.tl.tl) h1 h2 lr H locs hl hm hlo
  refine W.lcmp X.1 X.2.1 hd ?_
  rw [am_cmp64 ha hb]
  exact kk

theorem am_s_i2l (X : am_Cx D cy mi p s m args meth c) {a : Int} (hd : decode (am_by mi) pc = .ok (.i2l, 1)) (k : (am_At l D cy Bz ext L xs mi p e R s m args below meth c M0 Qf (pc + 1) (ls) ((1, a) :: st) (M))) : (am_At l D cy Bz ext L xs mi p e R s m args below meth c M0 Qf (pc) (ls) ((0, a) :: st) (M)) := by
  intro hok hst h1 h2 lr H locs hl hm hlo
  have ha : am_i32 a := hst.hd
  exact lv_i2l (v := Int64.ofInt a) X.1 X.2.1 hd (Int32.toInt64_ofInt ha.1 ha.2) (k hok (am_SR.cons (v := (1, a)) (by show am_i64 a; unfold am_i64; unfold am_i32 at ha; omega) hst.tl) h1 h2 lr H locs hl hm hlo)

theorem am_s_l2i (X : am_Cx D cy mi p s m args meth c) {a : Int} (hd : decode (am_by mi) pc = .ok (.l2i, 1)) (k : (am_At l D cy Bz ext L xs mi p e R s m args below meth c M0 Qf (pc + 1) (ls) ((0, am_w a) :: st) (M))) : (am_At l D cy Bz ext L xs mi p e R s m args below meth c M0 Qf (pc) (ls) ((1, a) :: st) (M)) := by
  intro hok hst h1 h2 lr H locs hl hm hlo
  have ha : am_i64 a := hst.hd
  refine lv_l2i (v := Int32.ofInt (am_w a)) X.1 X.2.1 hd ?_ (k hok (am_SR.cons (v := (0, am_w a)) (am_w_in _) hst.tl) h1 h2 lr H locs hl hm hlo)
  rw [am_w_ofInt]
  refine Int32.toInt_inj.mp ?_
  rw [Int64.toInt_toInt32, am_toIntl ha, Int32.toInt_ofInt]

theorem am_s_if (X : am_Cx D cy mi p s m args meth c) {x a : Int} {t : Nat} (hd : decode (am_by mi) pc = .ok (.ifCond (am_cco x) ((t : Int) - pc), 3)) (hx : 0 ≤ x ∧ x ≤ 5) (kt : am_cond x a 0 → (am_At l D cy Bz ext L xs mi p e R s m args below meth c M0 Qf (t) (ls) (st) (M))) (kf : ¬ am_cond x a 0 → (am_At l D cy Bz ext L xs mi p e R s m args below meth c M0 Qf (pc + 3) (ls) (st) (M))) : (am_At l D cy Bz ext L xs mi p e R s m args below meth c M0 Qf (pc) (ls) ((0, a) :: st) (M)) := by
  intro hok hst h1 h2 lr H locs hl hm hlo
  have ha : am_i32 a := hst.hd
  have ht : (pc : Int) + ((t : Int) - pc) = (t : Int) := by omega
  rcases (show x = 0 ∨ x = 1 ∨ x = 2 ∨ x = 3 ∨ x = 4 ∨ x = 5 by omega) with rfl | rfl | rfl | rfl | rfl | rfl
  · exact lv_if_eq X.1 X.2.1 hd ht (fun h => kt ((am_eq32 ha am_i32_0).mp h) hok hst.tl h1 h2 lr H locs hl hm hlo) (fun h => kf (fun q => h ((am_eq32 ha am_i32_0).mpr q)) hok hst.tl h1 h2 lr H locs hl hm hlo)
  · exact lv_if_ne X.1 X.2.1 hd ht (fun h => kt (fun q => h ((am_eq32 ha am_i32_0).mpr q)) hok hst.tl h1 h2 lr H locs hl hm hlo) (fun h => kf (fun q => q ((am_eq32 ha am_i32_0).mp h)) hok hst.tl h1 h2 lr H locs hl hm hlo)
  · exact lv_if_lt X.1 X.2.1 hd ht (fun h => kt ((am_lt32 ha am_i32_0).mp h) hok hst.tl h1 h2 lr H locs hl hm hlo) (fun h => kf (fun q => h ((am_lt32 ha am_i32_0).mpr q)) hok hst.tl h1 h2 lr H locs hl hm hlo)
  · exact lv_if_ge X.1 X.2.1 hd ht (fun h => kt ((am_le32 am_i32_0 ha).mp h) hok hst.tl h1 h2 lr H locs hl hm hlo) (fun h => kf (fun q => h ((am_le32 am_i32_0 ha).mpr q)) hok hst.tl h1 h2 lr H locs hl hm hlo)
  · exact lv_if_gt X.1 X.2.1 hd ht (fun h => kt ((am_lt32 am_i32_0 ha).mp h) hok hst.tl h1 h2 lr H locs hl hm hlo) (fun h => kf (fun q => h ((am_lt32 am_i32_0 ha).mpr q)) hok hst.tl h1 h2 lr H locs hl hm hlo)
  · exact lv_if_le X.1 X.2.1 hd ht (fun h => kt ((am_le32 ha am_i32_0).mp h) hok hst.tl h1 h2 lr H locs hl hm hlo) (fun h => kf (fun q => h ((am_le32 ha am_i32_0).mpr q)) hok hst.tl h1 h2 lr H locs hl hm hlo)

theorem am_s_icmp (X : am_Cx D cy mi p s m args meth c) {x a b : Int} {t : Nat} (hd : decode (am_by mi) pc = .ok (.if_icmp (am_cco x) ((t : Int) - pc), 3)) (hx : 0 ≤ x ∧ x ≤ 5) (kt : am_cond x a b → (am_At l D cy Bz ext L xs mi p e R s m args below meth c M0 Qf (t) (ls) (st) (M))) (kf : ¬ am_cond x a b → (am_At l D cy Bz ext L xs mi p e R s m args below meth c M0 Qf (pc + 3) (ls) (st) (M))) : (am_At l D cy Bz ext L xs mi p e R s m args below meth c M0 Qf (pc) (ls) ((0, b) :: (0, a) :: st) (M)) := by
  intro hok hst h1 h2 lr H locs hl hm hlo
  have ha : am_i32 a := hst.tl.hd
  have hb : am_i32 b := hst.hd
  have ht : (pc : Int) + ((t : Int) - pc) = (t : Int) := by omega
  rcases (show x = 0 ∨ x = 1 ∨ x = 2 ∨ x = 3 ∨ x = 4 ∨ x = 5 by omega) with rfl | rfl | rfl | rfl | rfl | rfl
  · exact lv_icmp_eq X.1 X.2.1 hd ht (fun h => kt ((am_eq32 ha hb).mp h) hok hst.tl.tl h1 h2 lr H locs hl hm hlo) (fun h => kf (fun q => h ((am_eq32 ha hb).mpr q)) hok hst.tl.tl h1 h2 lr H locs hl hm hlo)
  · exact lv_icmp_ne X.1 X.2.1 hd ht (fun h => kt (fun q => h ((am_eq32 ha hb).mpr q)) hok hst.tl.tl h1 h2 lr H locs hl hm hlo) (fun h => kf (fun q => q ((am_eq32 ha hb).mp h)) hok hst.tl.tl h1 h2 lr H locs hl hm hlo)
  · exact lv_icmp_lt X.1 X.2.1 hd ht (fun h => kt ((am_lt32 ha hb).mp h) hok hst.tl.tl h1 h2 lr H locs hl hm hlo) (fun h => kf (fun q => h ((am_lt32 ha hb).mpr q)) hok hst.tl.tl h1 h2 lr H locs hl hm hlo)
  · exact lv_icmp_ge X.1 X.2.1 hd ht (fun h => kt ((am_le32 hb ha).mp h) hok hst.tl.tl h1 h2 lr H locs hl hm hlo) (fun h => kf (fun q => h ((am_le32 hb ha).mpr q)) hok hst.tl.tl h1 h2 lr H locs hl hm hlo)
  · exact lv_icmp_gt X.1 X.2.1 hd ht (fun h => kt ((am_lt32 hb ha).mp h) hok hst.tl.tl h1 h2 lr H locs hl hm hlo) (fun h => kf (fun q => h ((am_lt32 hb ha).mpr q)) hok hst.tl.tl h1 h2 lr H locs hl hm hlo)
  · exact lv_icmp_le X.1 X.2.1 hd ht (fun h => kt ((am_le32 ha hb).mp h) hok hst.tl.tl h1 h2 lr H locs hl hm hlo) (fun h => kf (fun q => h ((am_le32 ha hb).mpr q)) hok hst.tl.tl h1 h2 lr H locs hl hm hlo)

theorem am_s_goto (X : am_Cx D cy mi p s m args meth c) {t : Nat} (hd : decode (am_by mi) pc = .ok (.goto ((t : Int) - pc), 3)) (k : (am_At l D cy Bz ext L xs mi p e R s m args below meth c M0 Qf (t) (ls) (st) (M))) : (am_At l D cy Bz ext L xs mi p e R s m args below meth c M0 Qf (pc) (ls) (st) (M)) := by
  intro hok hst h1 h2 lr H locs hl hm hlo
  exact lv_goto X.1 X.2.1 hd (by omega) (k hok hst h1 h2 lr H locs hl hm hlo)

theorem am_s_ifnonnull (X : am_Cx D cy mi p s m args meth c) {a : Int} {t : Nat} (hd : decode (am_by mi) pc = .ok (.ifnonnull ((t : Int) - pc), 3)) (kt : a ≠ -1 → (am_At l D cy Bz ext L xs mi p e R s m args below meth c M0 Qf (t) (ls) (st) (M))) (kf : a = -1 → (am_At l D cy Bz ext L xs mi p e R s m args below meth c M0 Qf (pc + 3) (ls) (st) (M))) : (am_At l D cy Bz ext L xs mi p e R s m args below meth c M0 Qf (pc) (ls) ((2, a) :: st) (M)) := by
  intro hok hst h1 h2 lr H locs hl hm hlo
  rw [List.map_cons, am_rv2]
  by_cases ha : a = -1
  · have e : am_rr Bz ext a = none := by unfold am_rr; rw [if_pos ha]
    rw [e]
    exact lv_ifnonnullN X.1 X.2.1 hd (kf ha hok hst.tl h1 h2 lr H locs hl hm hlo)
  · have e : am_rr Bz ext a = some (am_ad Bz ext a) := by unfold am_rr; rw [if_neg ha]
    rw [e]
    exact lv_ifnonnull X.1 X.2.1 hd (by omega) (kt ha hok hst.tl h1 h2 lr H locs hl hm hlo)
end AmOps
