set_option maxRecDepth 100000 in
theorem am_wmax : Cond.code Lib.Math.max.name Lib.Math.max.code 2 (some .int) ∈ am_gT := am_gT_of (i := 530) rfl (by decide +kernel)
set_option maxRecDepth 100000 in
theorem am_wmin : Cond.code Lib.Math.min.name Lib.Math.min.code 2 (some .int) ∈ am_gT := am_gT_of (i := 545) rfl (by decide +kernel)
theorem am_map_cat {Bz : Nat} {ext : Int → Nat} {st : List am_V} (h : am_SR st) (hc : am_cw st ≤ 8) : ((st.map (am_rv Bz ext)).map fun v => v.category).sum ≤ 8 := by
  rw [am_cw_of Bz ext h]; exact hc
theorem am_cp_gt (M : am_M) (a i b j n c k : Int) : am_gt (am_cp M a i b j n) c k = if c = b ∧ j ≤ k ∧ k < j + n then am_gt M a (k - j + i) else am_gt M c k := rfl
theorem am_re_cp {cy : Nat → ClassId} {Bz : Nat} {ext : Int → Nat} {M : am_M} {a i b j n c : Int} (h : c ≠ b) : am_re cy Bz ext (am_cp M a i b j n) c = am_re cy Bz ext M c := by
  have e1 : am_kd (am_cp M a i b j n) c = am_kd M c := rfl
  have e2 : am_ln (am_cp M a i b j n) c = am_ln M c := rfl
  have e3 : ∀ k, am_gt (am_cp M a i b j n) c k = am_gt M c k := fun k => by rw [am_cp_gt, if_neg (fun q => h q.1)]
  unfold am_re
  simp only [e1, e2, e3]
theorem am_ok.cp {L : Int} {xs : Int → Int} {M : am_M} {a i b j n : Int} (h : am_ok L xs M) (ha : am_kd M a = 100) (hb : am_kd M b = 100) : am_ok L xs (am_cp M a i b j n) := by
  obtain ⟨h1, h2, h3, h4, h5, h6, h7, h8, h9, h10, h11, h12⟩ := h
  have hb0 := (h3 b (by omega)).1
  refine ⟨h1, h2, h3, h4, h5, h6, fun c k hc => ?_, h8, h9, fun k => ?_, h11, fun q hq => ⟨(h12 q hq).1, fun k hk => ?_⟩⟩
  · rw [am_cp_gt]
    split
    · rename_i e
      have h := h7 a (k - j + i) (by omega)
      rw [ha] at h
      show am_okv (am_sk (am_kd M c) k) _
      rw [e.1, hb]
      exact h
    · exact h7 c k hc
  · rw [am_cp_gt, if_neg (by omega)]; exact h10 k
  · rw [am_cp_gt, if_neg (by omega)]; exact (h12 q hq).2 k hk
theorem am_kd_cl (M : am_M) (a b : Int) : am_kd (am_cl M a) b = if b = M.1 then 100 else am_kd M b := by
  show (if b = M.1 then (100, am_ln M a) else M.2.2.1 b).1 = _
  split <;> rfl
theorem am_ln_cl (M : am_M) (a b : Int) : am_ln (am_cl M a) b = if b = M.1 then am_ln M a else am_ln M b := by
  show (if b = M.1 then (100, am_ln M a) else M.2.2.1 b).2 = _
  split <;> rfl
theorem am_gt_cl (M : am_M) (a b j : Int) : am_gt (am_cl M a) b j = if b = M.1 then am_gt M a j else am_gt M b j := rfl
theorem am_re_cl {cy : Nat → ClassId} {Bz : Nat} {ext : Int → Nat} {M : am_M} {a b : Int} (h : b ≠ M.1) : am_re cy Bz ext (am_cl M a) b = am_re cy Bz ext M b := by
  have e1 : am_kd (am_cl M a) b = am_kd M b := by rw [am_kd_cl, if_neg h]
  have e2 : am_ln (am_cl M a) b = am_ln M b := by rw [am_ln_cl, if_neg h]
  have e3 : ∀ j, am_gt (am_cl M a) b j = am_gt M b j := fun j => by rw [am_gt_cl, if_neg h]
  unfold am_re
  simp only [e1, e2, e3]
theorem am_ok.cl {L : Int} {xs : Int → Int} {M : am_M} {a : Int} (h : am_ok L xs M) (hk : am_kd M a = 100) : am_ok L xs (am_cl M a) := by
  obtain ⟨h1, h2, h3, h4, h5, h6, h7, h8, h9, h10, h11, h12⟩ := h
  have hz := h6 a (by omega) (by omega)
  refine ⟨by show 0 ≤ M.1 + 1; omega, by show 0 ≤ M.2.1 + am_ln M a; omega, fun b ha => ?_, fun b ha hb => ?_, fun b ha => ?_, fun b ha hb => ?_, fun b i ha => ?_, fun b ha => ?_, ?_, fun i => ?_, fun b ha => ?_, fun q hq => ⟨?_, fun i hi => ?_⟩⟩
  · show 0 ≤ b ∧ b < M.1 + 1
    rw [am_kd_cl] at ha
    split at ha
    · omega
    · have := h3 b ha; omega
  · rw [am_kd_cl]
    split
    · omega
    · exact h4 b ha (by have : b < M.1 + 1 := hb; omega)
  · rw [am_kd_cl] at ha ⊢
    rw [am_ln_cl]
    split
    · rename_i e; rw [if_pos e] at ha; omega
    · rename_i e; rw [if_neg e] at ha; exact h5 b ha
  · rw [am_kd_cl] at ha hb
    rw [am_ln_cl]
    split
    · exact hz
    · rename_i e; rw [if_neg e] at ha hb; exact h6 b ha hb
  · rw [am_kd_cl] at ha ⊢
    rw [am_gt_cl]
    split
    · have h := h7 a i (by omega)
      rw [hk] at h
      exact h
    · rename_i e; rw [if_neg e] at ha; exact h7 b i ha
  · rw [am_kd_cl] at ha
    split at ha
    · omega
    · exact h8 b ha
  · rw [am_ln_cl, if_neg (by omega)]; exact h9
  · rw [am_gt_cl, if_neg (by omega)]; exact h10 i
  · rw [am_kd_cl] at ha
    split at ha
    · omega
    · exact h11 b ha
  · rw [am_ln_cl, if_neg (by omega)]; exact (h12 q hq).1
  · rw [am_gt_cl, if_neg (by omega)]; exact (h12 q hq).2 i hi
section AmOps
variable {l : Launch} {D : va_G} {cy : Nat → ClassId} {Bz : Nat} {ext : Int → Nat} {L : Int} {xs : Int → Int} {mi : Nat} {p : Program} {e : Env} {R : Room} {s : State} {m : MethodId} {args : Array Value} {below : List Frame} {meth : Method} {c : Code} {M0 : am_M} {Qf : State → Prop} {pc : Nat} {ls st : List am_V} {M : am_M}
theorem am_s_oinit (X : am_Cx D cy mi p s m args meth c) {a : Int} {i : Nat} (hd : decode (am_by mi) pc = .ok (.invokespecial i, 3)) (hq : (am_oc mi, i, 0) ∈ am_jl) (ha : a ≠ -1) (hfr : 1 ≤ R.frames) (hlc : 100 ≤ R.locals) (hc : am_cw st ≤ 8) (k : (am_At l D cy Bz ext L xs mi p e R s m args below meth c M0 Qf (pc + 3) (ls) (st) (M))) : (am_At l D cy Bz ext L xs mi p e R s m args below meth c M0 Qf (pc) (ls) ((2, a) :: st) (M)) := by
  intro hok hst h1 h2 lr H locs hl hm hlo
  have kk := k hok hst.tl h1 h2 lr H locs hl hm hlo
  rw [List.map_cons, am_rv2, show am_rr Bz ext a = some (am_ad Bz ext a) from if_neg ha]
  refine W.objInit X.1 X.2.1 X.2.2.2.1 (X.2.2.2.2.1 _ (am_jl_ok hq)) (X.2.2.2.2.1 _ (am_gT_of (i := 134) (by decide +kernel) (by decide +kernel))) (X.2.2.2.2.1 _ (am_gT_of (i := 135) rfl (by decide +kernel))) rfl (hl.2.1.trans X.2.2.1.symm) rfl hd hfr ?_ kk
  have := am_map_cat (Bz := Bz) (ext := ext) hst.tl hc
  show 2 * 0 + _ + 12 ≤ _
  omega

theorem am_s_mmax (X : am_Cx D cy mi p s m args meth c) {a b : Int} {i : Nat} (hd : decode (am_by mi) pc = .ok (.invokestatic i, 3)) (hq : (am_oc mi, i, 1) ∈ am_jl) (hfr : 1 ≤ R.frames) (hlc : 100 ≤ R.locals) (hc : am_cw st ≤ 8) (hr1 : M.1 - M0.1 ≤ (R.cells : Int)) (hr2 : M.2.1 - M0.2.1 ≤ (R.slots : Int)) (k : (am_At l D cy Bz ext L xs mi p e R s m args below meth c M0 Qf (pc + 3) (ls) ((0, max a b) :: st) (M))) : (am_At l D cy Bz ext L xs mi p e R s m args below meth c M0 Qf (pc) (ls) ((0, b) :: (0, a) :: st) (M)) := by
  intro hok hst h1 h2 lr H locs hl hm hlo
  have hb : am_i32 b := hst.hd
  have ha : am_i32 a := hst.tl.hd
  have kk := k hok (am_SR.cons (v := (0, max a b)) (by show am_i32 _; unfold am_i32 at *; omega) hst.tl.tl) h1 h2 lr H locs hl hm hlo
  have := am_map_cat (Bz := Bz) (ext := ext) hst.tl.tl hc
  refine va_mmax X.1 X.2.1 (X.2.2.1.trans hl.2.1.symm) X.2.2.2.1 (X.2.2.2.2.1 _ (am_jl_ok hq)) (X.2.2.2.2.1 _ (am_gT_of (i := 529) (by decide +kernel) (by decide +kernel))) (X.2.2.2.2.1 _ (am_gT_of (i := 120) (by decide +kernel) (by decide +kernel))) (X.2.2.2.2.1 _ am_wmax) hfr (by omega) (by omega) (by omega) hd ?_
  rw [show (if Int32.ofInt a < Int32.ofInt b then Int32.ofInt b else Int32.ofInt a) = Int32.ofInt (max a b) by
    split
    · rename_i hlt
      rw [am_lt32 ha hb] at hlt
      refine congrArg Int32.ofInt ?_; omega
    · rename_i hlt
      rw [am_lt32 ha hb] at hlt
      refine congrArg Int32.ofInt ?_; omega]
  exact kk

theorem am_s_mmin (X : am_Cx D cy mi p s m args meth c) {a b : Int} {i : Nat} (hd : decode (am_by mi) pc = .ok (.invokestatic i, 3)) (hq : (am_oc mi, i, 2) ∈ am_jl) (hfr : 1 ≤ R.frames) (hlc : 100 ≤ R.locals) (hc : am_cw st ≤ 8) (hr1 : M.1 - M0.1 ≤ (R.cells : Int)) (hr2 : M.2.1 - M0.2.1 ≤ (R.slots : Int)) (k : (am_At l D cy Bz ext L xs mi p e R s m args below meth c M0 Qf (pc + 3) (ls) ((0, min a b) :: st) (M))) : (am_At l D cy Bz ext L xs mi p e R s m args below meth c M0 Qf (pc) (ls) ((0, b) :: (0, a) :: st) (M)) := by
  intro hok hst h1 h2 lr H locs hl hm hlo
  have hb : am_i32 b := hst.hd
  have ha : am_i32 a := hst.tl.hd
  have kk := k hok (am_SR.cons (v := (0, min a b)) (by show am_i32 _; unfold am_i32 at *; omega) hst.tl.tl) h1 h2 lr H locs hl hm hlo
  have := am_map_cat (Bz := Bz) (ext := ext) hst.tl.tl hc
  refine va_mmin X.1 X.2.1 (X.2.2.1.trans hl.2.1.symm) X.2.2.2.1 (X.2.2.2.2.1 _ (am_jl_ok hq)) (X.2.2.2.2.1 _ (am_gT_of (i := 544) (by decide +kernel) (by decide +kernel))) (X.2.2.2.2.1 _ (am_gT_of (i := 120) (by decide +kernel) (by decide +kernel))) (X.2.2.2.2.1 _ am_wmin) hfr (by omega) (by omega) (by omega) hd ?_
  rw [show (if Int32.ofInt b < Int32.ofInt a then Int32.ofInt b else Int32.ofInt a) = Int32.ofInt (min a b) by
    split
    · rename_i hlt
      rw [am_lt32 hb ha] at hlt
      refine congrArg Int32.ofInt ?_; omega
    · rename_i hlt
      rw [am_lt32 hb ha] at hlt
      refine congrArg Int32.ofInt ?_; omega]
  exact kk

theorem am_s_acopy (X : am_Cx D cy mi p s m args meth c) {a i b j n : Int} {q : Nat} (hd : decode (am_by mi) pc = .ok (.invokestatic q, 3)) (hq : (am_oc mi, q, 3) ∈ am_jl) (hfr : 1 ≤ R.frames) (hlc : 100 ≤ R.locals) (hc : am_cw st ≤ 8) (hka : am_kd M a = 100) (hkb : am_kd M b = 100) (hn : 0 ≤ n) (hi : 0 ≤ i) (hj : 0 ≤ j) (hin : i + n ≤ am_ln M a) (hjn : j + n ≤ am_ln M b) (k : (am_At l D cy Bz ext L xs mi p e R s m args below meth c M0 Qf (pc + 3) (ls) (st) (am_cp M a i b j n))) : (am_At l D cy Bz ext L xs mi p e R s m args below meth c M0 Qf (pc) (ls) ((0, n) :: (0, j) :: (2, b) :: (0, i) :: (2, a) :: st) (M)) := by
  intro hok hst h1 h2 lr H locs hl hm hlo
  obtain ⟨a0, a1⟩ := hok.2.2.1 a (by omega)
  obtain ⟨b0, b1⟩ := hok.2.2.1 b (by omega)
  have hata := am_ws_at (cy := cy) (Bz := Bz) (ext := ext) (M := M) a0 a1
  have hatb := am_ws_at (cy := cy) (Bz := Bz) (ext := ext) (M := M) b0 b1
  have hza := hok.2.2.2.2.2.1 a (by omega) (by omega)
  have hzb := hok.2.2.2.2.2.1 b (by omega) (by omega)
  have n32 : am_i32 n := hst.hd
  have j32 : am_i32 j := hst.tl.hd
  have i32 : am_i32 i := hst.tl.tl.tl.hd
  have hst5 := hst.tl.tl.tl.tl.tl
  have e5 : nativeFrameWords "java/lang/System" "arraycopy" 5 + 11 ≤ 92 := by decide +kernel
  have := am_map_cat (Bz := Bz) (ext := ext) hst5 hc
  have nlt : ∀ {x : Int}, am_i32 x → 0 ≤ x → ¬ Int32.ofInt x < 0 := fun {x} hx h0 h => by
    rw [Int32.lt_iff_toInt_lt, am_toInt hx] at h
    have : (0 : Int32).toInt = 0 := rfl
    omega
  rw [am_re_i (Or.inl hka), hka] at hata
  rw [am_re_i (Or.inl hkb), hkb] at hatb
  rw [List.map_cons, List.map_cons, List.map_cons, List.map_cons, List.map_cons, am_rv2p a0, am_rv2p b0]
  refine va_copyi (ty := .int) X.1 X.2.1 (X.2.2.1.trans hl.2.1.symm) X.2.2.2.1 (X.2.2.2.2.1 _ (am_jl_ok hq)) (X.2.2.2.2.1 _ (am_gT_of (i := 804) (by decide +kernel) (by decide +kernel))) (X.2.2.2.2.1 _ (am_gT_of (i := 803) (by decide +kernel) (by decide +kernel))) (X.2.2.2.2.1 _ (am_gT_of (i := 127) (by decide +kernel) (by decide +kernel))) X.2.2.2.2.2.1 hm (am_ws_D cy Bz ext M) hlo a.toNat b.toNat 0 0 hata hatb rfl rfl rfl (nlt i32 hi) (nlt j32 hj) (nlt n32 hn) (by rw [am_cl32 i32, am_cl32 n32]; omega) (by rw [am_cl32 j32, am_cl32 n32]; omega) (fun _ _ => rfl) hfr (by omega) hd (fun H1 locs1 hP1 _ hS1 => ?_)
  rw [am_cl32 i32, am_cl32 j32, am_cl32 n32, am_ws_set (M := M) (M' := am_cp M a i b j n) b0 rfl (fun c hc => am_re_cp hc) ?_] at hP1
  · exact k (hok.cp hka hkb) hst5 h1 h2 lr H1 locs1 hl hP1 hS1
  · have ek : am_kd (am_cp M a i b j n) b = 100 := hkb
    rw [am_re_i (Or.inl ek), ek]
    refine congrArg (fun z => (Sum.inl (cy 100, (am_ln M b).toNat, Sum.inl z) : va_E)) (funext fun q => ?_)
    show Int32.ofInt (am_gt (am_cp M a i b j n) b q) = va_cpy (fun (j : Nat) => Int32.ofInt (am_gt M a j)) (fun (j : Nat) => Int32.ofInt (am_gt M b j)) i.toNat j.toNat n.toNat q
    unfold va_cpy
    rw [am_cp_gt]
    by_cases hq2 : j.toNat ≤ q ∧ q < j.toNat + n.toNat
    · rw [if_pos hq2, if_pos ⟨rfl, by omega, by omega⟩]
      show Int32.ofInt (am_gt M a _) = Int32.ofInt (am_gt M a _)
      refine congrArg (fun z => Int32.ofInt (am_gt M a z)) ?_
      omega
    · rw [if_neg hq2, if_neg (by omega)]

theorem am_s_clone (X : am_Cx D cy mi p s m args meth c) {a : Int} {q : Nat} (hd : decode (am_by mi) pc = .ok (.invokevirtual q, 3)) (hq : (am_oc mi, q, 6) ∈ am_jl) (hfr : 1 ≤ R.frames) (hlc : 100 ≤ R.locals) (hc : am_cw st ≤ 8) (hkd : am_kd M a = 100) (hr1 : M.1 + 1 - M0.1 ≤ (R.cells : Int)) (hr2 : M.2.1 + am_ln M a - M0.2.1 ≤ (R.slots : Int)) (hs0 : s.heap.size = Bz + M0.1.toNat) (hz0 : 0 ≤ M0.1) (k : (am_At l D cy Bz ext L xs mi p e R s m args below meth c M0 Qf (pc + 3) (ls) ((2, M.1) :: st) (am_cl M a))) : (am_At l D cy Bz ext L xs mi p e R s m args below meth c M0 Qf (pc) (ls) ((2, a) :: st) (M)) := by
  intro hok hst h1 h2 lr H locs hl hm hlo
  obtain ⟨g0, g1⟩ := hok.2.2.1 a (by omega)
  have hat := am_ws_at (cy := cy) (Bz := Bz) (ext := ext) (M := M) g0 g1
  have hzl := hok.2.2.2.2.2.1 a (by omega) (by omega)
  have := am_map_cat (Bz := Bz) (ext := ext) hst.tl hc
  rw [am_re_i (Or.inl hkd), hkd] at hat
  rw [List.map_cons, am_rv2p g0]
  have hnm : s.vm.findClass "[I" = some (cy 100) := (X.2.2.2.2.2.1.2 0 (cy 100, .int) rfl).2
  refine va_clone (ad := "[I") (ty := .int) X.1 X.2.1 (X.2.2.1.trans hl.2.1.symm) X.2.2.2.1 (X.2.2.2.2.1 _ (am_jl_ok hq)) (X.2.2.2.2.1 _ (am_gT_of (i := 795) (by decide +kernel) (by decide +kernel))) (X.2.2.2.2.1 _ (am_gT_of (i := 796) (by decide +kernel) (by decide +kernel))) (X.2.2.2.2.1 _ (am_gT_of (i := 797) (by decide +kernel) (by decide +kernel))) (X.2.2.2.2.1 _ (am_gT_of (i := 798) (by decide +kernel) (by decide +kernel))) X.2.2.2.2.2.2.1.2.2 X.2.2.2.2.2.1 hm (am_ws_D cy Bz ext M) hlo (fun q hq => by show Bz ≤ q; omega) a.toNat 0 hat rfl hnm ?_ hfr (by omega) (by omega) (by show _ + (am_ln M a).toNat ≤ _; omega) hd (fun q H1 hK1 hP1 hD1 hS1 => am_W_sz (fun hz => ?_))
  · intro i v hv
    rw [vp_cell_i] at hv
    by_cases hi : i < (am_ln M a).toNat
    · rw [arrV_read _ _ hi] at hv
      cases hv
      rfl
    · exfalso
      have := (Array.getElem?_eq_some_iff.mp hv).1
      rw [arrV_size] at this
      exact hi this
  have hq := am_new_at hok.1 hP1 hD1 (by have hz1 : (0 : Int) ≤ M.1 := hok.1; omega)
  subst hq
  have hre : am_re cy Bz ext (am_cl M a) M.1 = .inl (cy 100, (am_ln M a).toNat, .inl (fun (j : Nat) => Int32.ofInt (am_gt M a j))) := by
    have e1 : am_kd (am_cl M a) M.1 = 100 := by rw [am_kd_cl, if_pos rfl]
    have e2 : am_ln (am_cl M a) M.1 = am_ln M a := by rw [am_ln_cl, if_pos rfl]
    have e3 : ∀ j : Int, am_gt (am_cl M a) M.1 j = am_gt M a j := fun j => by rw [am_gt_cl, if_pos rfl]
    rw [am_re_i (Or.inl e1), e1, e2]
    simp only [e3]
  rw [am_ws_push (M := M) (M' := am_cl M a) hok.1 rfl (fun b hb => am_re_cl hb) hre] at hP1
  have kk := k (hok.cl hkd) (am_SR.cons (v := (2, M.1)) trivial hst.tl) (by show M0.1 ≤ M.1 + 1; omega) (by show M0.2.1 ≤ M.2.1 + am_ln M a; omega) lr H1 locs hl hP1 hS1
  rw [show ((am_cl M a).1 - M0.1).toNat = (M.1 - M0.1).toNat + 1 by show (M.1 + 1 - M0.1).toNat = _; omega, show ((am_cl M a).2.1 - M0.2.1).toNat = (M.2.1 - M0.2.1).toNat + (am_ln M a).toNat by show (M.2.1 + am_ln M a - M0.2.1).toNat = _; omega, List.map_cons, am_rv2p hok.1] at kk
  exact kk

theorem am_s_castA (X : am_Cx D cy mi p s m args meth c) {a : Int} (hd : decode (am_by mi) pc = .ok (.checkcast 317, 3)) (ho : am_oc mi = 10) (hkd : am_kd M a = 100) (k : (am_At l D cy Bz ext L xs mi p e R s m args below meth c M0 Qf (pc + 3) (ls) ((2, a) :: st) (M))) : (am_At l D cy Bz ext L xs mi p e R s m args below meth c M0 Qf (pc) (ls) ((2, a) :: st) (M)) := by
  intro hok hst h1 h2 lr H locs hl hm hlo
  obtain ⟨g0, g1⟩ := hok.2.2.1 a (by omega)
  have hat := am_ws_at (cy := cy) (Bz := Bz) (ext := ext) (M := M) g0 g1
  have kk := k hok hst h1 h2 lr H locs hl hm hlo
  rw [am_re_i (Or.inl hkd), hkd] at hat
  rw [List.map_cons, am_rv2p g0] at kk ⊢
  have hnm : s.vm.findClass "[I" = some (cy 100) := (X.2.2.2.2.2.1.2 0 (cy 100, .int) rfl).2
  have hown := X.2.2.2.1
  rw [ho] at hown
  exact va_castA (nm := "[I") X.1 X.2.1 hown (X.2.2.2.2.1 _ (am_gT_of (i := 800) (by decide +kernel) (by decide +kernel))) hm a.toNat hat hnm hd kk

theorem am_s_sw (X : am_Cx D cy mi p s m args meth c) {a : Int} {dflt : Nat} {qs : List (Int × Nat)} (hk : am_swk mi pc (dflt, qs) = true) (h : am_sw (fun t => (am_At l D cy Bz ext L xs mi p e R s m args below meth c M0 Qf (t) (ls) (st) (M))) a dflt qs) : (am_At l D cy Bz ext L xs mi p e R s m args below meth c M0 Qf (pc) (ls) ((0, a) :: st) (M)) := by
  intro hok hst h1 h2 lr H locs hl hm hlo
  have ha : am_i32 a := hst.hd
  unfold am_swk at hk
  split at hk
  · rename_i d lo hi offs len hdec
    simp only [Bool.and_eq_true, decide_eq_true_eq] at hk
    obtain ⟨⟨⟨⟨⟨q1, q2⟩, q3⟩, q4⟩, -⟩, -⟩ := hk
    by_cases hin : lo ≤ a ∧ a ≤ hi
    · have hlen : qs.length = offs.size := by
        have := congrArg List.length q2
        rw [List.length_map, Array.length_toList] at this
        exact this
      have hj : (a - lo).toNat < qs.length := by omega
      have hq1 : (qs[(a - lo).toNat]).1 = a := by
        have := congrArg (fun z => z[(a - lo).toNat]?) q3
        simp only [List.getElem?_map, List.getElem?_range (show (a - lo).toNat < offs.size by omega), List.getElem?_eq_getElem hj, Option.map_some, Option.some.injEq] at this
        omega
      have hof : offs[(a - lo).toNat]? = some (((qs[(a - lo).toNat]).2 : Int) - pc) := by
        rw [← Array.getElem?_toList, ← q2, List.getElem?_map, List.getElem?_eq_getElem hj]
        rfl
      have hne : ∀ i (hi2 : i < qs.length), i ≠ (a - lo).toNat → a ≠ (qs[i]).1 := by
        intro i hi2 hi3
        have := congrArg (fun z => z[i]?) q3
        simp only [List.getElem?_map, List.getElem?_range (show i < offs.size by omega), List.getElem?_eq_getElem hi2, Option.map_some, Option.some.injEq] at this
        omega
      have key : ∀ (qs : List (Int × Nat)) (n : Nat) (hn : n < qs.length), (qs[n]).1 = a → (∀ i (hi2 : i < qs.length), i ≠ n → a ≠ (qs[i]).1) → am_sw (fun t => (am_At l D cy Bz ext L xs mi p e R s m args below meth c M0 Qf (t) (ls) (st) (M))) a dflt qs → (am_At l D cy Bz ext L xs mi p e R s m args below meth c M0 Qf ((qs[n]).2) (ls) (st) (M)) := by
        intro qs
        induction qs with
        | nil => intro n hn; exact absurd hn (Nat.not_lt_zero _)
        | cons q qs ih =>
          intro n hn e1 e2 hs
          cases n with
          | zero => exact hs.1 e1.symm
          | succ n => exact ih n (by simpa using hn) e1 (fun i hi2 hi3 => e2 (i + 1) (by simpa using hi2) (by omega)) (hs.2 (e2 0 (by simp) (by omega)))
      have hgo := key qs _ hj hq1 hne h
      refine lv_tableIn X.1 X.2.1 hdec (by rw [am_toInt ha]; omega) (by rw [am_toInt ha]; omega) (by rw [am_toInt ha]; exact hof) (tgt := (qs[(a - lo).toNat]).2) (by omega) (hgo hok hst.tl h1 h2 lr H locs hl hm hlo)
    · have key : ∀ qs : List (Int × Nat), (∀ q ∈ qs, a ≠ q.1) → am_sw (fun t => (am_At l D cy Bz ext L xs mi p e R s m args below meth c M0 Qf (t) (ls) (st) (M))) a dflt qs → (am_At l D cy Bz ext L xs mi p e R s m args below meth c M0 Qf (dflt) (ls) (st) (M)) := by
        intro qs
        induction qs with
        | nil => intro _ hs; exact hs
        | cons q qs ih =>
          intro e1 hs
          exact ih (fun q' hq' => e1 q' (List.mem_cons_of_mem _ hq')) (hs.2 (e1 q List.mem_cons_self))
      have hgo := key qs (fun q hq e => ?_) h
      · exact lv_tableOut X.1 X.2.1 hdec (by rw [am_toInt ha]; omega) q1.symm (hgo hok hst.tl h1 h2 lr H locs hl hm hlo)
      · have : q.1 ∈ qs.map (fun q => q.1) := List.mem_map_of_mem hq
        rw [q3] at this
        obtain ⟨z, hz, hz2⟩ := List.mem_map.mp this
        have := List.mem_range.mp hz
        omega
  · cases hk
end AmOps
