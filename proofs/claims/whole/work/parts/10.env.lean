/-! THE SURROUNDINGS of a method's run -/
def am_tys (cy : Nat → ClassId) : List (ClassId × FieldType) := [(cy 100, .int), (cy 101, .long), (cy 102, .boolean), (cy 103, .object "NightMirrors$State"), (cy 104, .object "NightMirrors$Text"), (cy 105, .object "NightMirrors$Works")]
/-- what of the tables is not among the words: nest mates' constructors, arrays of references, an int array can be cloned -/
def am_Ev (s : State) : Prop := (∀ q ∈ am_mlN, va_Nw (.methodLinkNest (am_ocn q.1) q.2.1 (am_yn q.2.2) "NightMirrors") s) ∧ (∀ k, 103 ≤ k → k ≤ 105 → va_AO (am_ocn (am_kcl k)) s) ∧ va_Nw (.castable "[I" "java/lang/Cloneable") s
theorem am_Ev.warm {s U : State} (hW : s.WarmedH U.vm) (h : am_Ev s) : am_Ev U := ⟨fun q hq => (h.1 q hq).warmM hW, fun k h1 h2 => (h.2.1 k h1 h2).moved hW.alike, h.2.2.warmC hW⟩
theorem am_Ev.same {s U : State} (e : s.vm = U.vm) (h : am_Ev s) : am_Ev U := ⟨fun q hq => (h.1 q hq).same rfl e, fun k h1 h2 => (h.2.1 k h1 h2).moved (by rw [e]; exact Vm.Alike.refl _), h.2.2.same rfl e⟩
/-- the surroundings of method mi -/
def am_Cx (D : va_G) (cy : Nat → ClassId) (mi : Nat) (p : Program) (s : State) (m : MethodId) (args : Array Value) (meth : Method) (c : Code) : Prop :=
  p.tables.exec = Jvm.exec ∧ c.code = am_by mi ∧ c.maxLocals = am_mx mi ∧ s.vm.findClass (am_ocn (am_oc mi)) = some m.cls ∧ (∀ w ∈ am_gT, w.before args s = true) ∧ va_K D am_cls (am_tys cy) s ∧ am_Ev s ∧ ((am_yn mi).name = "<init>" → meth.name = "<init>")
/-- the real machine goes on from here to its end -/
def am_At (l : Launch) (D : va_G) (cy : Nat → ClassId) (Bz : Nat) (ext : Int → Nat) (L : Int) (xs : Int → Int) (mi : Nat) (p : Program) (e : Env) (R : Room) (s : State) (m : MethodId) (args : Array Value) (below : List Frame) (meth : Method) (c : Code) (M0 : am_M) (Qf : State → Prop) (pc : Nat) (ls st : List am_V) (M : am_M) : Prop :=
  am_ok L xs M → am_SR st → M0.1 ≤ M.1 → M0.2.1 ≤ M.2.1 → ∀ (lr : Array Slot) (H : Heap) (locs : List Loc), am_LR Bz ext (am_mx mi) ls lr → am_MR D cy Bz ext M H → va_S (am_A Bz) s.heap H locs → W p l e R s m args below meth c H locs (M.1 - M0.1).toNat (M.2.1 - M0.2.1).toNat Qf (F0 m pc lr (st.map (am_rv Bz ext)))
/-- the locals that are known -/
def am_kn (Bz : Nat) (ext : Int → Nat) (ls : List am_V) : List (Nat × Value) := (List.range ls.length).filterMap (fun i => match ls[i]? with
  | some v => if v.1 = 9 then none else some (i, am_rv Bz ext v)
  | none => none)
theorem am_kn_mem {Bz : Nat} {ext : Int → Nat} {ls : List am_V} {i : Nat} {x : Value} : (i, x) ∈ am_kn Bz ext ls ↔ ∃ v, ls[i]? = some v ∧ v.1 ≠ 9 ∧ x = am_rv Bz ext v := by
  unfold am_kn
  rw [List.mem_filterMap]
  constructor
  · rintro ⟨j, hj, h⟩
    cases hv : ls[j]? with
    | none => rw [hv] at h; cases h
    | some v =>
      rw [hv] at h
      by_cases h9 : v.1 = 9
      · simp [h9] at h
      · simp only [h9, if_false, Option.some.injEq, Prod.mk.injEq] at h
        obtain ⟨rfl, rfl⟩ := h
        exact ⟨v, hv, h9, rfl⟩
  · rintro ⟨v, hv, h9, rfl⟩
    refine ⟨i, List.mem_range.mpr (List.getElem?_eq_some_iff.mp hv).1, ?_⟩
    simp [hv, h9]
theorem am_LR.has {Bz : Nat} {ext : Int → Nat} {nL : Nat} {ls : List am_V} {lr : Array Slot} (h : am_LR Bz ext nL ls lr) : lv_has lr nL (am_kn Bz ext ls) := by
  refine ⟨h.2.1, h.2.2.1, fun q hq => ?_⟩
  obtain ⟨i, x⟩ := q
  obtain ⟨v, hv, h9, rfl⟩ := am_kn_mem.mp hq
  exact (h.2.2.2 i v hv h9).2
theorem am_LR.get {Bz : Nat} {ext : Int → Nat} {nL k : Nat} {ls : List am_V} {lr : Array Slot} {t : Nat} {v : Int} (h : am_LR Bz ext nL ls lr) (hk : ls.getD k (9, 0) = (t, v)) (ht : t ≠ 9) : am_vk (t, v) ∧ lr[k]? = some (.val (am_rv Bz ext (t, v))) := by
  refine h.2.2.2 k (t, v) ?_ ht
  cases hv : ls[k]? with
  | none => rw [List.getD_eq_getElem?_getD, hv] at hk; simp at hk; exact absurd hk.1.symm ht
  | some x => rw [List.getD_eq_getElem?_getD, hv] at hk; simp at hk; rw [hk]
theorem am_sto_get {ls : List am_V} {k : Nat} {v w : am_V} {i : Nat} (hk : k < ls.length) (h : (am_sto ls k v)[i]? = some w) (hw : w.1 ≠ 9) : (i = k ∧ w = v) ∨ (i ≠ k ∧ ls[i]? = some w ∧ ¬ (i + 1 = k ∧ w.1 = 1)) := by
  unfold am_sto at h
  by_cases hik : i = k
  · subst hik
    left
    refine ⟨rfl, ?_⟩
    cases hb : am_kp ls i with
    | true =>
      rw [hb] at h
      simp only [cond_true] at h
      rw [List.getElem?_set_self (by simpa using hk)] at h
      exact (Option.some.inj h).symm
    | false =>
      rw [hb] at h
      simp only [cond_false] at h
      rw [List.getElem?_set_self hk] at h
      exact (Option.some.inj h).symm
  · right
    refine ⟨hik, ?_⟩
    cases hb : am_kp ls k with
    | true =>
      rw [hb] at h
      simp only [cond_true] at h
      rw [List.getElem?_set_ne (Ne.symm hik)] at h
      by_cases h1 : i = k - 1
      · rw [h1] at h
        rw [List.getElem?_set_self (by omega)] at h
        cases h
        exact absurd rfl hw
      · rw [List.getElem?_set_ne (Ne.symm h1)] at h
        exact ⟨h, fun q => h1 (by omega)⟩
    | false =>
      rw [hb] at h
      simp only [cond_false] at h
      rw [List.getElem?_set_ne (Ne.symm hik)] at h
      refine ⟨h, fun q => ?_⟩
      obtain ⟨q1, q2⟩ := q
      subst q1
      have hb2 : Nat.beq (ls.getD i (9, 0)).1 1 = false := hb
      rw [List.getD_eq_getElem?_getD, h] at hb2
      simp [q2] at hb2
theorem am_sto_len (ls : List am_V) (k : Nat) (v : am_V) : (am_sto ls k v).length = ls.length := by
  unfold am_sto
  cases am_kp ls k <;> simp
theorem am_LR.sto {Bz : Nat} {ext : Int → Nat} {nL k : Nat} {ls : List am_V} {lr : Array Slot} {v : am_V} {lv' : List (Nat × Value)} (hl : ls.length = nL) (hls : ∀ w ∈ ls, w.1 ≠ 9 → am_vk w) (hv : am_vk v) (hk : k < nL) (he : (k, am_rv Bz ext v) :: (am_kn Bz ext ls).filter (fun q => !(q.1 == k) && !(q.1 + 1 == k && q.2.category == 2)) = lv') (h : lv_has lr nL lv') : am_LR Bz ext nL (am_sto ls k v) lr := by
  subst he
  refine ⟨by rw [am_sto_len]; exact hl, h.1, h.2.1, fun i w hi hw => ?_⟩
  rcases am_sto_get (by omega) hi hw with ⟨rfl, rfl⟩ | ⟨h1, h2, h3⟩
  · exact ⟨hv, h.2.2 (i, am_rv Bz ext w) List.mem_cons_self⟩
  · have hvk := hls w (List.mem_of_getElem? h2) hw
    refine ⟨hvk, h.2.2 (i, am_rv Bz ext w) (List.mem_cons_of_mem _ (List.mem_filter.mpr ⟨am_kn_mem.mpr ⟨w, h2, hw, rfl⟩, ?_⟩))⟩
    simp only [Bool.and_eq_true, Bool.not_eq_true', beq_eq_false_iff_ne, ne_eq, Bool.and_eq_false_imp, beq_iff_eq]
    refine ⟨h1, fun q hc => h3 ⟨q, ?_⟩⟩
    rw [am_cat_of Bz ext hvk] at hc
    unfold am_cat at hc
    cases hb : Nat.beq w.1 1 with
    | true => exact Nat.eq_of_beq_eq_true hb
    | false => rw [hb] at hc; cases hc
theorem am_LR.vks {Bz : Nat} {ext : Int → Nat} {nL : Nat} {ls : List am_V} {lr : Array Slot} (h : am_LR Bz ext nL ls lr) : ∀ w ∈ ls, w.1 ≠ 9 → am_vk w := by
  intro w hw h9
  obtain ⟨i, hi⟩ := List.getElem?_of_mem hw
  exact (h.2.2.2 i w hi h9).1
theorem am_LR.stl {Bz : Nat} {ext : Int → Nat} {nL k : Nat} {ls : List am_V} {lr : Array Slot} {v : am_V} {lv' : List (Nat × Value)} (hl : ls.length = nL) (hls : ∀ w ∈ ls, w.1 ≠ 9 → am_vk w) (hv : am_vk v) (hk : k + 1 < nL) (he : (k, am_rv Bz ext v) :: (am_kn Bz ext ls).filter (fun q => !(q.1 == k) && (!(q.1 == k + 1) && !(q.1 + 1 == k && q.2.category == 2))) = lv') (h : lv_has lr nL lv') : am_LR Bz ext nL (am_stl ls k v) lr := by
  subst he
  refine ⟨by unfold am_stl; rw [List.length_set, am_sto_len]; exact hl, h.1, h.2.1, fun i w hi hw => ?_⟩
  unfold am_stl at hi
  have hik : i ≠ k + 1 := by
    rintro rfl
    rw [List.getElem?_set_self (by rw [am_sto_len]; omega)] at hi
    cases hi
    exact hw rfl
  rw [List.getElem?_set_ne (Ne.symm hik)] at hi
  rcases am_sto_get (by omega) hi hw with ⟨rfl, rfl⟩ | ⟨h1, h2, h3⟩
  · exact ⟨hv, h.2.2 (i, am_rv Bz ext w) List.mem_cons_self⟩
  · have hvk := hls w (List.mem_of_getElem? h2) hw
    refine ⟨hvk, h.2.2 (i, am_rv Bz ext w) (List.mem_cons_of_mem _ (List.mem_filter.mpr ⟨am_kn_mem.mpr ⟨w, h2, hw, rfl⟩, ?_⟩))⟩
    simp only [Bool.and_eq_true, Bool.not_eq_true', beq_eq_false_iff_ne, ne_eq, Bool.and_eq_false_imp, beq_iff_eq]
    refine ⟨h1, hik, fun q hc => h3 ⟨q, ?_⟩⟩
    rw [am_cat_of Bz ext hvk] at hc
    unfold am_cat at hc
    cases hb : Nat.beq w.1 1 with
    | true => exact Nat.eq_of_beq_eq_true hb
    | false => rw [hb] at hc; cases hc
theorem am_SR.hd {v : am_V} {st : List am_V} (h : am_SR (v :: st)) : am_vk v := h v List.mem_cons_self
theorem am_SR.tl {v : am_V} {st : List am_V} (h : am_SR (v :: st)) : am_SR st := fun w hw => h w (List.mem_cons_of_mem _ hw)
theorem am_SR.cons {v : am_V} {st : List am_V} (h0 : am_vk v) (h : am_SR st) : am_SR (v :: st) := fun w hw => (List.mem_cons.mp hw).elim (fun e => e ▸ h0) (h w)
theorem am_SR.nil : am_SR [] := fun _ h => absurd h List.not_mem_nil
theorem am_cw_of (Bz : Nat) (ext : Int → Nat) {st : List am_V} (h : am_SR st) : ((st.map (am_rv Bz ext)).map fun v => v.category).sum = am_cw st := by
  unfold am_cw
  rw [List.map_map]
  congr 1
  refine List.map_congr_left fun v hv => ?_
  exact am_cat_of Bz ext (h v hv)
theorem am_W_sz {p : Program} {l : Launch} {e : Env} {R : Room} {s : State} {m : MethodId} {args : Array Value} {below : List Frame} {meth : Method} {c : Code} {H : Heap} {locs : List Loc} {cells slots : Nat} {Q : State → Prop} {g : JFrame} (k : H.size ≤ s.heap.size + cells → W p l e R s m args below meth c H locs cells slots Q g) : W p l e R s m args below meth c H locs cells slots Q g := fun T hT X => k (by rw [← hT]; exact X.heapSize) T hT X
