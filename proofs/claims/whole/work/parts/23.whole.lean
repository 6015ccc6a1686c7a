/-! THE CLAIM OUT OF ONE WALK OF THE LAW'S BODY. Your part is whole_start (and what it stands on); all else here is the same for every law, but numbers. -/
def R_law : String := "NightMirrorsLaw"
def lw_P (b : Addr) (xs : List Int32) (args : Array Value) (s : State) : Prop := args = #[.ref b] ∧ s.IntsAt b xs ∧ xs.length ≤ 3072 ∧ (Jvm.Cond.and given_1 narrow_1).before args s = true
def lw_Q (_ : Array Value) (s : State) (o : Outcome) (t : State) : Prop := o = .returned (some (.int 1)) ∧ Framed s o t [] 600000 7302250
def lw_Z (below : List Frame) (a : Array Value) (s : State) : State → Prop := fun t => ∃ o, t.status = .running ∧ Ended t below o ∧ lw_Q a s o t
/-- the law's own end, with 1 on the stack, nothing written that was there before, its room as the claim has it -/
theorem lw_ret {p : Program} {l : Launch} {e : Env} {s : State} {m : MethodId} {below : List Frame} {meth : Method} {c : Code} {b : Nat} (hx : p.tables.exec = Jvm.exec) (hb : c.code = code) (hr : meth.sig.returnType = ret) (hlocks : meth.locks = false) {pc : Nat} {H : Heap} {ls : Array Slot} (hdg : decode code pc = .ok (.ireturn, 1)) : W p l e room_1 s m #[Value.ref b] below meth c H [] 600000 7302250 (lw_Z below #[Value.ref b] s) (F0 m pc ls [.int 1]) := by
  intro T hT X
  obtain ⟨fs, hret, hrun, hended, hW, hframe⟩ := X.leave (v := some (.int 1)) (hlocks := hlocks) (fun h => by rw [hr] at h; cases h)
  have hmeth' : T.vm.method? m = some meth := X.method'
  refine ⟨T.setFrames fs, ?_, .returned (some (.int 1)), hrun, hended, rfl, ⟨_, rfl⟩, hW, hframe⟩
  jvm_step X.here [X.here.top, hx, hb, hdg, hmeth', hr, ret, narrow_b1]
  (try refine ⟨rfl, ?_⟩); (try refine ⟨rfl, ?_⟩)
  first | (intro acts; rw [hret _ acts rfl rfl rfl]) | rw [hret _ _ rfl rfl rfl]
  exact Steps.refl _
/-- what holds at the law's entry: the machine, the code, the tables' words (any of lw_tbl by 'hts w (by decide +kernel)'), the script of L ints xs at the cell b, what the Statement gives of the start (any of its parts by flat_of_before) -/
def lw_At (p : Program) (s : State) (m : MethodId) (meth : Method) (c : Code) (b L : Nat) (xs : Nat → Int32) : Prop :=
  p.tables.exec = Jvm.exec ∧ c.code = code ∧ meth.sig.returnType = ret ∧ c.maxLocals = 4 ∧ s.vm.findClass R_law = some m.cls ∧ (∀ w ∈ lw_tbl, w.before #[Value.ref b] s = true) ∧ va_X b L xs s s.heap ∧ b < s.heap.size ∧ meth.locks = false ∧ (Jvm.Cond.and given_1 narrow_1).before #[Value.ref b] s = true
/-- WHAT IS LEFT: the small machine's run of the law, for every script -/
def am_Goal : Prop := ∀ (L : Int) (xs : Int → Int), 0 ≤ L → L ≤ 3072 → (∀ j, am_i32 (xs j)) → am_CL 100 262 [(2, -2)] (am_M00 L xs) (fun r M' => r = [(0, 1)] ∧ M'.1 ≤ 600000 ∧ M'.2.1 ≤ 7302250)
theorem am_whole (hG : am_Goal) {p : Program} {e : Env} {s : State} {m : MethodId} {below : List Frame} {meth : Method} {c : Code} (l : Launch) {b L : Nat} {xs : Nat → Int32} (hL : L ≤ 3072) (C0 : lw_At p s m meth c b L xs) : W p l e room_1 s m #[Value.ref b] below meth c s.heap [] 0 0 (lw_Z below #[Value.ref b] s) (entryFrame m ([Value.ref b] : List Value).toArray 4) := by
  obtain ⟨hx, hb, hr, hml, hown, hts, hX, hbl, hlocks, hgv⟩ := C0
  obtain ⟨D, cy, hK⟩ := am_start hts
  have hEv := am_start_Ev hts
  obtain ⟨ext, adV, hext, hEx⟩ := am_start_Ex hts hgv hX hbl
  have hg : ∀ w ∈ am_gT, w.before #[Value.ref b] s = true := fun w hw => hts w (List.mem_filter.mp hw).1
  have X : am_Cx D cy 262 p s m #[Value.ref b] meth c := ⟨hx, hb, hml, hown, hg, hK, hEv, fun h => absurd h (by decide)⟩
  have hxs : ∀ j : Int, am_i32 ((fun i : Int => (xs i.toNat).toInt) j) := fun j => am_i32_of _
  obtain ⟨n, hrun⟩ := hG (L : Int) (fun i => (xs i.toNat).toInt) (by omega) (by omega) hxs
  obtain ⟨r, Me, ⟨rfl, he1, he2⟩, hw⟩ := am_wp_det n hrun
  have hA := am_sound (l := l) (D := D) (cy := cy) (Bz := s.heap.size) (ext := ext) (adV := adV) (e := e) (below := below) (R := room_1) (M0 := am_M00 (L : Int) (fun i => (xs i.toNat).toInt)) (Qf := lw_Z below #[Value.ref b] s) am_chk_ok ⟨by omega, by omega⟩ hxs n (mi := 262) (by decide) X hEx rfl (Int.le_refl _) (by decide) (by decide) (by show Me.1 - 0 ≤ ((600000 : Nat) : Int); omega) (by show Me.2.1 - 0 ≤ ((7302250 : Nat) : Int); omega) ?_ hw
  · have hl := lv_entry ([Value.ref b] : List Value) (n := 4) (Nat.le_of_ble_eq_true rfl)
    rw [lg_entry_eq]
    have hargs : am_SR [((2, -2) : am_V)] := am_SR.cons trivial am_SR.nil
    have hmap : ([((2, -2) : am_V)]).map (am_rv s.heap.size ext) = [Value.ref b] := by
      rw [List.map_cons, am_rv2n (by omega), hext]
      rfl
    have hLR : am_LR s.heap.size ext 4 (am_ent 4 [(2, -2)]) _ := am_ent_LR hargs (by decide) (by rw [hmap]; exact hl)
    exact hA (am_ok00 _ _) am_SR.nil (Int.le_refl _) (Int.le_refl _) _ s.heap [] hLR (fun k q hq => by cases hq) va_S.rf
  · intro pc ls hre hok hst h1 h2 lr H locs hlr hm hlo
    have hd : decode code pc = .ok (.ireturn, 1) := by
      rcases hre with ⟨v, -, -, q⟩ | ⟨v, -, -, -, q⟩ | ⟨v, h, -, -⟩ | ⟨v, h, -, -⟩ | ⟨h, -, -⟩
      · exact q
      · exact q
      · cases h
      · cases h
      · cases h
    refine va_forget (fun q hq => hlo.2.2 q hq) ?_
    refine W.widen (k := 600000) (n := 7302250) (by show (Me.1 - 0).toNat ≤ 600000; omega) (by show (Me.2.1 - 0).toNat ≤ 7302250; omega) ?_
    exact lw_ret hx hb hr hlocks hd
