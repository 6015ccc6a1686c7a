/-! WHAT LIES OUTSIDE: the script, the texts of the class, two statics of the JDK -/
def am_sx : List String := ["makes", "wears", "pays", "bars", "hang", "down", "polish", "pass", "[", "]", "mirror", "place", "hour", "part", "bend", "silver", "night", "mood", "done", "latest", "hung", "stock", "+", "-", "*", "/", "%", "by", "times", "if", "not", "(", ")", "<", ">", "=", "and", "or", ";"]
def am_Ex (Bz : Nat) (ext : Int → Nat) (adV : Nat → Nat) (L : Int) (xs : Int → Int) (s : State) (H : Heap) : Prop :=
  (va_X (ext (-2)) L.toNat (fun j => Int32.ofInt (xs j)) s H ∧ ext (-2) < Bz) ∧
  (∀ k : Nat, k < 39 → vk_R "NightMirrors$Reader" (am_sr.getD k 0) (am_sx.getD k "") (ext (-10 - k)) s ∧ va_O "java/lang/String" (ext (-10 - k)) (am_A Bz) s H ∧ va_OF "java/lang/String" "coder" "B" (.int 0) (ext (-10 - k)) (am_A Bz) s H ∧ va_OF "java/lang/String" "value" "[B" (.ref (adV k)) (ext (-10 - k)) (am_A Bz) s H ∧ va_T .byte (adV k) (am_tx.getD k []).length (fun j => .int (Int32.ofInt ((am_tx.getD k []).getD j 0))) (am_A Bz) s H) ∧
  va_Z "java/lang/String" "COMPACT_STRINGS" "Z" (.int 1) (am_A Bz) s H ∧ va_Zq "jdk/internal/util/Preconditions" "SIOOBE_FORMATTER" "Ljava/util/function/BiFunction;" (am_A Bz) s H
theorem am_Ex.warm {Bz : Nat} {ext : Int → Nat} {adV : Nat → Nat} {L : Int} {xs : Int → Int} {s U : State} {H H1 : Heap} (hW : s.WarmedH U.vm) (hq : ∀ a : Nat, a < H.size → ¬ am_A Bz a → H1[a]? = H[a]?) (h : am_Ex Bz ext adV L xs s H) : am_Ex Bz ext adV L xs U H1 := by
  obtain ⟨⟨h1, h1b⟩, h2, h3, h4⟩ := h
  have hb : H1[ext (-2)]? = H[ext (-2)]? := by
    obtain ⟨scr, hs, -⟩ := h1
    exact hq _ (Array.getElem?_eq_some_iff.mp hs).1 (by show ¬ Bz ≤ _; omega)
  refine ⟨⟨(h1.kept hb).moved hW.alike, h1b⟩, fun k hk => ?_, (h3.kept hq).moved hW.alike, (h4.kept hq).moved hW.alike⟩
  obtain ⟨q1, q2, q3, q4, q5⟩ := h2 k hk
  exact ⟨q1.warm hW, va_O.moved hW.alike (q2.kept hq), va_OF.moved hW.alike (q3.kept hq), va_OF.moved hW.alike (q4.kept hq), va_T.moved hW.alike (q5.kept hq)⟩
theorem am_Ex.same {Bz : Nat} {ext : Int → Nat} {adV : Nat → Nat} {L : Int} {xs : Int → Int} {s U : State} {H : Heap} (e : s.vm = U.vm) (h : am_Ex Bz ext adV L xs s H) : am_Ex Bz ext adV L xs U H := by
  have hW : s.vm.Alike U.vm := by rw [e]; exact Vm.Alike.refl _
  obtain ⟨⟨h1, h1b⟩, h2, h3, h4⟩ := h
  refine ⟨⟨h1.moved hW, h1b⟩, fun k hk => ?_, h3.moved hW, h4.moved hW⟩
  obtain ⟨q1, q2, q3, q4, q5⟩ := h2 k hk
  exact ⟨q1.same e.symm, va_O.moved hW q2, va_OF.moved hW q3, va_OF.moved hW q4, va_T.moved hW q5⟩
/-! A METHOD'S CONTRACT -/
def am_ro (Bz : Nat) (ext : Int → Nat) (r : List am_V) : Option Value := (r.map (am_rv Bz ext)).head?
def am_wds (mi : Nat) : List Cond := Cond.code (am_yn mi) (am_by mi) (am_mx mi) (am_rt mi) :: am_gT
def am_rm (d mc ms : Nat) : Room := { frames := d, cells := mc, slots := ms, locals := 100 * d }
def am_Pc (D : va_G) (cy : Nat → ClassId) (Bz : Nat) (ext : Int → Nat) (adV : Nat → Nat) (L : Int) (xs : Int → Int) (args : List am_V) (M : am_M) : Array Value → State → Prop :=
  va_Pc (args.map (am_rv Bz ext)) (fun U => U.heap.size = Bz + M.1.toNat ∧ am_MR D cy Bz ext M U.heap ∧ va_K D am_cls (am_tys cy) U ∧ am_Ev U ∧ am_Ex Bz ext adV L xs U U.heap)
def am_Qc (D : va_G) (cy : Nat → ClassId) (Bz : Nat) (ext : Int → Nat) (L : Int) (xs : Int → Int) (r : List am_V) (M : am_M) : Array Value → State → Outcome → State → Prop :=
  fun _ st o t => o = .returned (am_ro Bz ext r) ∧ am_MR D cy Bz ext M t.heap ∧ va_F (am_A Bz) st t ∧ am_ok L xs M ∧ am_SR r ∧ r.length ≤ 1
theorem am_lay_sl (Bz : Nat) (ext : Int → Nat) : ∀ {args : List am_V}, am_SR args → (lg_sl (args.map (am_rv Bz ext))).length = (am_lay args).length
  | [], _ => rfl
  | v :: vs, h => by
    have hc := am_cat_of Bz ext h.hd
    have ih := am_lay_sl Bz ext h.tl
    unfold lg_sl at *
    rw [List.map_cons, List.flatMap_cons, List.length_append, ih, hc]
    rw [show am_lay (v :: vs) = bif Nat.beq v.1 1 then v :: (9, 0) :: am_lay vs else v :: am_lay vs from rfl]
    unfold am_cat
    cases Nat.beq v.1 1
    · show 1 + _ = (am_lay vs).length + 1
      omega
    · show 2 + _ = (am_lay vs).length + 1 + 1
      omega
theorem am_lay_args (Bz : Nat) (ext : Int → Nat) : ∀ {args : List am_V} (b i : Nat) (v : am_V), am_SR args → (am_lay args)[i]? = some v → v.1 ≠ 9 → am_vk v ∧ (b + i, am_rv Bz ext v) ∈ lv_args b (args.map (am_rv Bz ext))
  | [], b, i, v, _, h, _ => by simp [am_lay] at h
  | w :: ws, b, i, v, hs, h, h9 => by
    have hc := am_cat_of Bz ext hs.hd
    rw [List.map_cons]
    unfold lv_args
    rw [hc]
    unfold am_lay at h
    unfold am_cat
    cases hb : Nat.beq w.1 1 with
    | false =>
      rw [hb] at h
      simp only [cond_false] at h
      cases i with
      | zero =>
        simp at h
        subst h
        exact ⟨hs.hd, List.mem_cons_self⟩
      | succ i =>
        simp at h
        obtain ⟨q1, q2⟩ := am_lay_args Bz ext (b + 1) i v hs.tl h h9
        refine ⟨q1, List.mem_cons_of_mem _ ?_⟩
        rw [show b + (i + 1) = b + 1 + i by omega]
        exact q2
    | true =>
      rw [hb] at h
      simp only [cond_true] at h
      cases i with
      | zero =>
        simp at h
        subst h
        exact ⟨hs.hd, List.mem_cons_self⟩
      | succ i =>
        cases i with
        | zero =>
          simp at h
          subst h
          exact absurd rfl h9
        | succ i =>
          simp at h
          obtain ⟨q1, q2⟩ := am_lay_args Bz ext (b + 2) i v hs.tl h h9
          refine ⟨q1, List.mem_cons_of_mem _ ?_⟩
          rw [show b + (i + 1 + 1) = b + 2 + i by omega]
          exact q2
theorem am_ent_LR {Bz : Nat} {ext : Int → Nat} {n : Nat} {args : List am_V} {lr : Array Slot} (hs : am_SR args) (hn : (am_lay args).length ≤ n) (h : lv_has lr n (lv_args 0 (args.map (am_rv Bz ext)))) : am_LR Bz ext n (am_ent n args) lr := by
  refine ⟨by unfold am_ent; rw [List.length_append, List.length_replicate]; omega, h.1, h.2.1, fun i v hi h9 => ?_⟩
  unfold am_ent at hi
  by_cases hl : i < (am_lay args).length
  · rw [List.getElem?_append_left hl] at hi
    obtain ⟨q1, q2⟩ := am_lay_args Bz ext 0 i v hs hi h9
    refine ⟨q1, ?_⟩
    have := h.2.2 _ q2
    simpa using this
  · rw [List.getElem?_append_right (by omega), List.getElem?_replicate] at hi
    split at hi
    · cases hi
      exact absurd rfl h9
    · cases hi
section AmMet
variable {l : Launch} {D : va_G} {cy : Nat → ClassId} {Bz : Nat} {ext : Int → Nat} {adV : Nat → Nat} {L : Int} {xs : Int → Int} {mi : Nat}
/-- how a method may end -/
def am_Re (mi pc : Nat) (r : List am_V) : Prop :=
  (∃ v, r = [(0, v)] ∧ am_rt mi = some .int ∧ decode (am_by mi) pc = .ok (.ireturn, 1)) ∨ (∃ v, r = [(0, v)] ∧ (v = 0 ∨ v = 1) ∧ am_rt mi = some .boolean ∧ decode (am_by mi) pc = .ok (.ireturn, 1)) ∨
  (∃ v, r = [(1, v)] ∧ am_rt mi = some .long ∧ decode (am_by mi) pc = .ok (.lreturn, 1)) ∨ (∃ v, r = [(2, v)] ∧ (am_rt mi = some (.array .int) ∨ am_rt mi = some (.object "NightMirrors$Text")) ∧ decode (am_by mi) pc = .ok (.areturn, 1)) ∨
  (r = [] ∧ am_rt mi = none ∧ decode (am_by mi) pc = .ok (.return_, 1))
theorem am_end {p : Program} {e : Env} {R : Room} {s : State} {m : MethodId} {args : Array Value} {below : List Frame} {meth : Method} {c : Code} {H : Heap} {locs : List Loc} {M : am_M} {r : List am_V} {pc : Nat} {lr : Array Slot} {cells slots : Nat} (X : am_Cx D cy mi p s m args meth c) (hr : meth.sig.returnType = am_rt mi) (hlocks : meth.locks = false) (hok : am_ok L xs M) (hst : am_SR r) (hm : am_MR D cy Bz ext M H) (hlo : va_S (am_A Bz) s.heap H locs) (hre : am_Re mi pc r) :
    W p l e R s m args below meth c H locs cells slots (MQ below (am_Qc D cy Bz ext L xs r M) args s cells slots (am_A Bz)) (F0 m pc lr (r.map (am_rv Bz ext))) := by
  have key : ∀ t : State, t.heap = H → r.length ≤ 1 → am_Qc D cy Bz ext L xs r M args s (.returned (am_ro Bz ext r)) t := fun t ht h1 => ⟨rfl, by rw [ht]; exact hm, hlo.F ht, hok, hst, h1⟩
  rcases hre with ⟨v, rfl, q1, q2⟩ | ⟨v, rfl, q0, q1, q2⟩ | ⟨v, rfl, q1, q2⟩ | ⟨v, rfl, q1, q2⟩ | ⟨rfl, q1, q2⟩
  · exact W.iret X.1 X.2.1 (hr.trans q1) (fun t ht _ => key t ht (Nat.le_refl _)) hlo.2.2 q2
  · exact W.zret X.1 X.2.1 (hr.trans q1) (by rcases q0 with rfl | rfl <;> rfl) (fun t ht _ => key t ht (Nat.le_refl _)) hlo.2.2 q2
  · exact W.lret X.1 X.2.1 (hr.trans q1) (fun t ht _ => key t ht (Nat.le_refl _)) hlo.2.2 q2
  · have hv : am_rv Bz ext (2, v) = .null ∨ ∃ a, am_rv Bz ext (2, v) = .ref a := by
      rw [am_rv2]
      cases am_rr Bz ext v with
      | none => exact Or.inl rfl
      | some a => exact Or.inr ⟨a, rfl⟩
    rcases q1 with q1 | q1
    · exact W.aret X.1 X.2.1 (hr.trans q1) (Or.inr ⟨_, rfl⟩) hv (fun t ht _ => key t ht (Nat.le_refl _)) hlo.2.2 q2
    · exact W.aret X.1 X.2.1 (hr.trans q1) (Or.inl ⟨_, rfl⟩) hv (fun t ht _ => key t ht (Nat.le_refl _)) hlo.2.2 q2
  · exact W.vret X.1 X.2.1 (hr.trans q1) (fun t ht _ => key t ht (by simp)) hlo.2.2 q2
/-- a method's contract out of its walk -/
theorem am_met {d mc ms : Nat} {args : List am_V} {M Me : am_M} {r : List am_V} (hmi : am_chk mi = true) (hargs : am_SR args) (hlay : (am_lay args).length ≤ am_mx mi) (hok : am_ok L xs M)
    (hw : ∀ (p : Program) (e : Env) (s : State) (m : MethodId) (below : List Frame) (meth : Method) (c : Code), am_Cx D cy mi p s m (args.map (am_rv Bz ext)).toArray meth c → am_Ex Bz ext adV L xs s s.heap → meth.sig.returnType = am_rt mi → meth.locks = false → s.heap.size = Bz + M.1.toNat →
      am_At l D cy Bz ext L xs mi p e (am_rm d mc ms) s m (args.map (am_rv Bz ext)).toArray below meth c M (MQ below (am_Qc D cy Bz ext L xs r Me) (args.map (am_rv Bz ext)).toArray s mc ms (am_A Bz)) 0 (am_ent (am_mx mi) args) [] M) :
    Met l (am_yn mi) (am_wds mi) (am_rm d mc ms) (am_Pc D cy Bz ext adV L xs args M) (am_Qc D cy Bz ext L xs r Me) mc ms (am_A Bz) := by
  unfold am_chk at hmi
  simp only [Bool.and_eq_true, decide_eq_true_eq] at hmi
  obtain ⟨⟨⟨⟨⟨⟨-, hcl⟩, hpl⟩, -⟩, -⟩, -⟩, -⟩ := hmi
  refine Met.ofW (cc := am_by mi) (maxL := am_mx mi) (ret := am_rt mi) hpl rfl ?_
  intro p e s m args' below meth c s₁ B hml hv
  obtain ⟨rfl, hsz, hP, hK, hEv, hEx⟩ := hv
  have hts := atoms_spec (ws := am_wds mi) B.pre
  have hown : s.vm.findClass (am_ocn (am_oc mi)) = some m.cls := by rw [← hcl]; exact findClass_of_methodNamed B.named
  have X : am_Cx D cy mi p s m (args.map (am_rv Bz ext)).toArray meth c := ⟨B.exec, B.bytes, hml, hown, fun w hw => hts w (List.mem_cons_of_mem _ hw), hK, hEv, fun h => by rw [← h]; exact (name_of_methodNamed B.named B.method).1⟩
  have hl := lv_entry (args.map (am_rv Bz ext)) (n := am_mx mi) (by rw [am_lay_sl Bz ext hargs]; exact hlay)
  rw [lg_entry_eq]
  have hA := hw p e s m below meth c X hEx B.returns B.notSynchronized hsz hok am_SR.nil (Int.le_refl _) (Int.le_refl _) _ s.heap [] (am_ent_LR hargs hlay hl) hP va_S.rf
  rw [Int.sub_self, Int.sub_self] at hA
  exact hA
theorem am_blind {args : List am_V} {M : am_M} : FrameBlind (am_Pc D cy Bz ext adV L xs args M) := by
  intro a U g mk h
  obtain ⟨h1, h2, h3, h4, h5, h6⟩ := h
  exact ⟨h1, h2, h3, va_K.moved (u := U) (U := U.calling g mk a) (Vm.Alike.refl U.vm) h4, h5.same (U := U.calling g mk a) rfl, h6.same (U := U.calling g mk a) rfl⟩
end AmMet
