/-! THE JDK's OWN WALKS of a text: length and charAt of a text of the class -/
section JS
variable {p : Program} {l : Launch} {e : Env} {R : Room} {s : State} {m : MethodId} {args : Array Value} {below : List Frame} {meth : Method} {c : Code} {H : Heap} {locs : List Loc} {cells slots : Nat} {Q : State → Prop}
abbrev js_Q (v : Option Value) : Array Value → State → Outcome → State → Prop := fun _ st o t => o = .returned v ∧ t.heap = st.heap
theorem js_callW {v : Option Value} {pc : Nat} {lr : Array Slot} {st0 rest : List Value} {aa : Array Value} (hr : va_Run p l e R s m args below meth c H locs cells slots 0 0 (F0 m pc lr st0) rest (js_Q v aa) (fun _ => False)) (kk : W p l e R s m args below meth c H locs cells slots Q (F0 m (pc + 3) lr (v.toList ++ rest))) : W p l e R s m args below meth c H locs cells slots Q (F0 m pc lr st0) := by
  intro T hT X
  obtain ⟨v', st₀, t, T', L1, h0, X', hL, e1, e2, ⟨hv, hh⟩, st⟩ := hr T hT X
  cases hv
  have hL0 : L1 = [] := by
    cases L1 with
    | nil => rfl
    | cons q _ => exact (hL q List.mem_cons_self).elim
  subst hL0
  rw [List.append_nil] at X'
  obtain ⟨t2, a1, b1⟩ := kk T' (by rw [e1, hh, h0]) X'
  exact ⟨t2, st t2 a1, b1⟩
end JS
def js_U (Bz q av n : Nat) (f : Nat → Value) (U : State) : Prop := va_O "java/lang/String" q (am_A Bz) U U.heap ∧ va_OF "java/lang/String" "coder" "B" (.int 0) q (am_A Bz) U U.heap ∧ va_OF "java/lang/String" "value" "[B" (.ref av) q (am_A Bz) U U.heap ∧ va_T .byte av n f (am_A Bz) U U.heap ∧ va_Z "java/lang/String" "COMPACT_STRINGS" "Z" (.int 1) (am_A Bz) U U.heap ∧ va_Zq "jdk/internal/util/Preconditions" "SIOOBE_FORMATTER" "Ljava/util/function/BiFunction;" (am_A Bz) U U.heap
theorem js_U.to {Bz q av n : Nat} {f : Nat → Value} {u U : State} (hv : u.vm.Alike U.vm) (hh : U.heap = u.heap) (h : js_U Bz q av n f u) : js_U Bz q av n f U := by
  obtain ⟨h1, h2, h3, h4, h5, h6⟩ := h
  unfold js_U
  rw [hh]
  exact ⟨va_O.moved hv h1, va_OF.moved hv h2, va_OF.moved hv h3, va_T.moved hv h4, h5.moved hv, h6.moved hv⟩
theorem js_recv {E : String} {t : Nat} {A : Nat → Prop} {s : State} {H : Heap} (h : va_O E t A s H) : ∃ cell : Cell, H[t]? = some cell ∧ cell.vm.isStatics = false ∧ s.vm.findClass E = some cell.cls := by
  obtain ⟨cell, h1, h2, h3, -⟩ := h
  exact ⟨cell, h1, h2, h3⟩
theorem js_blind {Bz q av n : Nat} {f : Nat → Value} {vs : List Value} : FrameBlind (va_Pc vs (js_U Bz q av n f)) := fun a U g mk h => ⟨h.1, h.2.to (u := U) (U := U.calling g mk a) (Vm.Alike.refl U.vm) rfl⟩
theorem js_good {y : MethodName} {b : ByteArray} {n : Nat} {r : Option FieldType} (h : Cond.code y b n r ∈ am_gT) : GoodIn am_gT (Cond.code y b n r :: am_gT) := fun w hw => by
  rcases List.mem_cons.mp hw with rfl | hw
  · exact ⟨h, good_of_word rfl⟩
  · exact am_gT_good w hw
abbrev js_rm (d : Nat) : Room := { frames := d, cells := 0, slots := 0, locals := 40 * d }

def js_y_coder : MethodName := ⟨"java/lang/String", "coder", "()B"⟩
set_option maxRecDepth 100000 in
theorem js_c_coder : Cond.code js_y_coder prog_14_method_152_code 1 (some .byte) ∈ am_gT := am_gT_of (i := 658) rfl (by decide +kernel)
abbrev js_w_coder : List Cond := Cond.code js_y_coder prog_14_method_152_code 1 (some .byte) :: am_gT
def js_y_length : MethodName := ⟨"java/lang/String", "length", "()I"⟩
set_option maxRecDepth 100000 in
theorem js_c_length : Cond.code js_y_length prog_14_method_54_code 1 (some .int) ∈ am_gT := am_gT_of (i := 654) rfl (by decide +kernel)
abbrev js_w_length : List Cond := Cond.code js_y_length prog_14_method_54_code 1 (some .int) :: am_gT
def js_y_isLatin1 : MethodName := ⟨"java/lang/String", "isLatin1", "()Z"⟩
set_option maxRecDepth 100000 in
theorem js_c_isLatin1 : Cond.code js_y_isLatin1 prog_14_method_154_code 1 (some .boolean) ∈ am_gT := am_gT_of (i := 668) rfl (by decide +kernel)
abbrev js_w_isLatin1 : List Cond := Cond.code js_y_isLatin1 prog_14_method_154_code 1 (some .boolean) :: am_gT
def js_y_charAt : MethodName := ⟨"java/lang/String", "charAt", "(I)C"⟩
set_option maxRecDepth 100000 in
theorem js_c_charAt : Cond.code js_y_charAt prog_14_method_56_code 2 (some .char) ∈ am_gT := am_gT_of (i := 664) rfl (by decide +kernel)
abbrev js_w_charAt : List Cond := Cond.code js_y_charAt prog_14_method_56_code 2 (some .char) :: am_gT
def js_y_lat : MethodName := ⟨"java/lang/StringLatin1", "charAt", "([BI)C"⟩
set_option maxRecDepth 100000 in
theorem js_c_lat : Cond.code js_y_lat prog_15_method_2_code 2 (some .char) ∈ am_gT := am_gT_of (i := 671) rfl (by decide +kernel)
abbrev js_w_lat : List Cond := Cond.code js_y_lat prog_15_method_2_code 2 (some .char) :: am_gT
def js_y_chk : MethodName := ⟨"java/lang/String", "checkIndex", "(II)V"⟩
set_option maxRecDepth 100000 in
theorem js_c_chk : Cond.code js_y_chk prog_14_method_155_code 2 none ∈ am_gT := am_gT_of (i := 674) rfl (by decide +kernel)
abbrev js_w_chk : List Cond := Cond.code js_y_chk prog_14_method_155_code 2 none :: am_gT
def js_y_pre : MethodName := ⟨"jdk/internal/util/Preconditions", "checkIndex", "(IILjava/util/function/BiFunction;)I"⟩
set_option maxRecDepth 100000 in
theorem js_c_pre : Cond.code js_y_pre prog_19_method_11_code 3 (some .int) ∈ am_gT := am_gT_of (i := 679) rfl (by decide +kernel)
abbrev js_w_pre : List Cond := Cond.code js_y_pre prog_19_method_11_code 3 (some .int) :: am_gT
theorem js_coder (l : Launch) (Bz q av n : Nat) (f : Nat → Value) : Met l js_y_coder js_w_coder (js_rm 0) (va_Pc [.ref q] (js_U Bz q av n f)) (js_Q (some (.int 0))) 0 0 (fun _ => False) := by
  refine Met.ofW (cc := prog_14_method_152_code) (maxL := 1) (ret := (some .byte)) (by decide) rfl ?_
  intro p e s m args below meth c s₁ B hml hv
  obtain ⟨rfl, hv⟩ := hv
  have hx := B.exec
  have hb := B.bytes
  have hr := B.returns
  have hts := atoms_spec (ws := js_w_coder) B.pre
  have hown : s.vm.findClass "java/lang/String" = some m.cls := findClass_of_methodNamed B.named
  have hlocks := B.notSynchronized
  have hS : va_S (am_A Bz) s.heap s.heap [] := va_S.rf
  have hl := lv_entry ([.ref q]) (n := 1) (Nat.le_of_ble_eq_true rfl)
  rw [lg_entry_eq]
  generalize (lg_sl ([.ref q]) ++ List.replicate (1 - (lg_sl ([.ref q])).length) Slot.unset).toArray = ls at hl ⊢
  have hl : lv_has ls 1 [(0, .ref q)] := hl
  obtain ⟨h1, h2, h3, h4, h5, h6⟩ := hv
  refine va_gets hx hb h5 hS hown (hts _ (List.mem_cons_of_mem _ (am_gT_of (i := 659) (by decide +kernel) (by decide +kernel)))) (fun _ h => h) (show decode prog_14_method_152_code 0 = .ok (.getstatic 38, 3) by decide +kernel) ?_
  refine lv_if_eq hx hb (show decode prog_14_method_152_code 3 = .ok (.ifCond .eq 10, 3) by decide +kernel) (tgt := 13) (by decide) (fun h => absurd h (by decide)) (fun _ => ?_)
  refine lv_aload_n hx hb (show decode prog_14_method_152_code 6 = .ok (.aload_n 0, 1) by decide +kernel) rfl (lv_at hl 0 rfl) ?_
  refine vk_getf hx hb h2 hS hown (hts _ (List.mem_cons_of_mem _ (am_gT_of (i := 1871) (by decide +kernel) (by decide +kernel)))) (fun _ h => h) (show decode prog_14_method_152_code 7 = .ok (.getfield 15, 3) by decide +kernel) ?_
  refine lv_goto hx hb (show decode prog_14_method_152_code 10 = .ok (.goto 4, 3) by decide +kernel) (tgt := 14) (by decide) ?_
  exact W.zret hx hb hr rfl (fun t ht _ => ⟨rfl, ht⟩) (fun _ h => by cases h) (show decode prog_14_method_152_code 14 = .ok (.ireturn, 1) by decide +kernel)

theorem js_isLatin1 (l : Launch) (Bz q av n : Nat) (f : Nat → Value) : Met l js_y_isLatin1 js_w_isLatin1 (js_rm 0) (va_Pc [.ref q] (js_U Bz q av n f)) (js_Q (some (.int 1))) 0 0 (fun _ => False) := by
  refine Met.ofW (cc := prog_14_method_154_code) (maxL := 1) (ret := (some .boolean)) (by decide) rfl ?_
  intro p e s m args below meth c s₁ B hml hv
  obtain ⟨rfl, hv⟩ := hv
  have hx := B.exec
  have hb := B.bytes
  have hr := B.returns
  have hts := atoms_spec (ws := js_w_isLatin1) B.pre
  have hown : s.vm.findClass "java/lang/String" = some m.cls := findClass_of_methodNamed B.named
  have hlocks := B.notSynchronized
  have hS : va_S (am_A Bz) s.heap s.heap [] := va_S.rf
  have hl := lv_entry ([.ref q]) (n := 1) (Nat.le_of_ble_eq_true rfl)
  rw [lg_entry_eq]
  generalize (lg_sl ([.ref q]) ++ List.replicate (1 - (lg_sl ([.ref q])).length) Slot.unset).toArray = ls at hl ⊢
  have hl : lv_has ls 1 [(0, .ref q)] := hl
  obtain ⟨h1, h2, h3, h4, h5, h6⟩ := hv
  refine va_gets hx hb h5 hS hown (hts _ (List.mem_cons_of_mem _ (am_gT_of (i := 659) (by decide +kernel) (by decide +kernel)))) (fun _ h => h) (show decode prog_14_method_154_code 0 = .ok (.getstatic 38, 3) by decide +kernel) ?_
  refine lv_if_eq hx hb (show decode prog_14_method_154_code 3 = .ok (.ifCond .eq 14, 3) by decide +kernel) (tgt := 17) (by decide) (fun h => absurd h (by decide)) (fun _ => ?_)
  refine lv_aload_n hx hb (show decode prog_14_method_154_code 6 = .ok (.aload_n 0, 1) by decide +kernel) rfl (lv_at hl 0 rfl) ?_
  refine vk_getf hx hb h2 hS hown (hts _ (List.mem_cons_of_mem _ (am_gT_of (i := 1871) (by decide +kernel) (by decide +kernel)))) (fun _ h => h) (show decode prog_14_method_154_code 7 = .ok (.getfield 15, 3) by decide +kernel) ?_
  refine lv_if_ne hx hb (show decode prog_14_method_154_code 10 = .ok (.ifCond .ne 7, 3) by decide +kernel) (tgt := 17) (by decide) (fun h => absurd rfl h) (fun _ => ?_)
  refine lv_iconst (v := 1) hx hb (show decode prog_14_method_154_code 13 = .ok (.iconst 1, 1) by decide +kernel) (by decide) ?_
  refine lv_goto hx hb (show decode prog_14_method_154_code 14 = .ok (.goto 4, 3) by decide +kernel) (tgt := 18) (by decide) ?_
  exact W.zret hx hb hr rfl (fun t ht _ => ⟨rfl, ht⟩) (fun _ h => by cases h) (show decode prog_14_method_154_code 18 = .ok (.ireturn, 1) by decide +kernel)

theorem js_length (l : Launch) (Bz q av n : Nat) (f : Nat → Value) (hn : n < 65536) : Met l js_y_length js_w_length (js_rm 1) (va_Pc [.ref q] (js_U Bz q av n f)) (js_Q (some (.int (Int32.ofNat n)))) 0 0 (fun _ => False) := by
  refine Met.ofW (cc := prog_14_method_54_code) (maxL := 1) (ret := (some .int)) (by decide) rfl ?_
  intro p e s m args below meth c s₁ B hml hv
  obtain ⟨rfl, hv⟩ := hv
  have hx := B.exec
  have hb := B.bytes
  have hr := B.returns
  have hts := atoms_spec (ws := js_w_length) B.pre
  have hown : s.vm.findClass "java/lang/String" = some m.cls := findClass_of_methodNamed B.named
  have hlocks := B.notSynchronized
  have hS : va_S (am_A Bz) s.heap s.heap [] := va_S.rf
  have hl := lv_entry ([.ref q]) (n := 1) (Nat.le_of_ble_eq_true rfl)
  rw [lg_entry_eq]
  generalize (lg_sl ([.ref q]) ++ List.replicate (1 - (lg_sl ([.ref q])).length) Slot.unset).toArray = ls at hl ⊢
  have hl : lv_has ls 1 [(0, .ref q)] := hl
  have hv0 := hv
  obtain ⟨h1, h2, h3, h4, h5, h6⟩ := hv
  refine lv_aload_n hx hb (show decode prog_14_method_54_code 0 = .ok (.aload_n 0, 1) by decide +kernel) rfl (lv_at hl 0 rfl) ?_
  refine vk_getf hx hb h3 hS hown (hts _ (List.mem_cons_of_mem _ (am_gT_of (i := 1870) (by decide +kernel) (by decide +kernel)))) (fun _ h => h) (show decode prog_14_method_54_code 1 = .ok (.getfield 9, 3) by decide +kernel) ?_
  refine va_tlen hx hb h4 hS rfl (show decode prog_14_method_54_code 4 = .ok (.arraylength, 1) by decide +kernel) ?_
  refine lv_aload_n hx hb (show decode prog_14_method_54_code 5 = .ok (.aload_n 0, 1) by decide +kernel) rfl (lv_at hl 0 rfl) ?_
  have hcw : CallW (headSpec js_w_length (js_rm 1)).room s ([.ref q] : List Value).toArray "java/lang/String" "java/lang/String" 335 js_y_coder prog_14_method_152_code 1 (some .byte) js_w_coder (js_rm 0) 0 0 0 := ⟨callB_of (Ts := am_gT) 0 (fun w hw => hts w (List.mem_cons_of_mem _ hw)) (js_good js_c_coder) rfl rfl rfl (hts _ (List.mem_cons_of_mem _ (am_gT_of (i := 121) (by decide +kernel) (by decide +kernel)))) (hts _ (List.mem_cons_of_mem _ (am_gT_of (i := 655) (by decide +kernel) (by decide +kernel)))) (by decide +kernel) ⟨Nat.le_of_ble_eq_true rfl, Nat.le_of_ble_eq_true rfl⟩, (hts _ (List.mem_cons_of_mem _ (am_gT_of (i := 656) (by decide +kernel) (by decide +kernel)))), (hts _ (List.mem_cons_of_mem _ (am_gT_of (i := 657) (by decide +kernel) (by decide +kernel))))⟩
  refine js_callW (va_runV (Ts := am_gT) (As := []) (rest := [.int (Int32.ofNat n)]) (C := "java/lang/String") (own := "java/lang/String") (nL := 1) ⟨hx, hb, hml, hown, fun w hw => hts w (List.mem_cons_of_mem _ hw)⟩ (js_coder l Bz q av n f) hcw ⟨js_blind, (js_recv h1), fun U hU hW => ⟨rfl, hv0.to hW.alike hU⟩⟩ rfl rfl hl.1 rfl (lv_room (Nat.le_of_ble_eq_true rfl)) (show decode prog_14_method_54_code 6 = .ok (.invokevirtual 335, 3) by decide +kernel) ⟨Nat.le_refl _, Nat.le_refl _⟩) ?_
  refine lv_ishr hx hb (show decode prog_14_method_54_code 9 = .ok (.ishr, 1) by decide +kernel) ?_
  rw [show Int32.ofNat n >>> ((0 : Int32) &&& 31) = Int32.ofNat n from sc_shr0 (by omega)]
  exact W.iret hx hb hr (fun t ht _ => ⟨rfl, ht⟩) (fun _ h => by cases h) (show decode prog_14_method_54_code 10 = .ok (.ireturn, 1) by decide +kernel)

theorem js_preN (l : Launch) (Bz : Nat) (i k : Int32) (tt : Nat) (h0 : 0 ≤ i) (h1 : i < k) : Met l js_y_pre js_w_pre (js_rm 0) (va_Pc [.int i, .int k, .null] (fun _ => True)) (js_Q (some (.int i))) 0 0 (fun _ => False) := by
  refine Met.ofW (cc := prog_19_method_11_code) (maxL := 3) (ret := (some .int)) (by decide) rfl ?_
  intro p e s m args below meth c s₁ B hml hv
  obtain ⟨rfl, hv⟩ := hv
  have hx := B.exec
  have hb := B.bytes
  have hr := B.returns
  have hts := atoms_spec (ws := js_w_pre) B.pre
  have hown : s.vm.findClass "jdk/internal/util/Preconditions" = some m.cls := findClass_of_methodNamed B.named
  have hlocks := B.notSynchronized
  have hS : va_S (am_A Bz) s.heap s.heap [] := va_S.rf
  have hl := lv_entry ([.int i, .int k, .null]) (n := 3) (Nat.le_of_ble_eq_true rfl)
  rw [lg_entry_eq]
  generalize (lg_sl ([.int i, .int k, .null]) ++ List.replicate (3 - (lg_sl ([.int i, .int k, .null])).length) Slot.unset).toArray = ls at hl ⊢
  have hl : lv_has ls 3 [(0, .int i), (1, .int k), (2, .null)] := hl
  refine lv_iload_n hx hb (show decode prog_19_method_11_code 0 = .ok (.iload_n 0, 1) by decide +kernel) rfl (lv_at hl 0 rfl) ?_
  refine lv_if_lt hx hb (show decode prog_19_method_11_code 1 = .ok (.ifCond .lt 8, 3) by decide +kernel) (tgt := 9) (by decide) (fun h => absurd h (Int32.not_lt.mpr h0)) (fun _ => ?_)
  refine lv_iload_n hx hb (show decode prog_19_method_11_code 4 = .ok (.iload_n 0, 1) by decide +kernel) rfl (lv_at hl 0 rfl) ?_
  refine lv_iload_n hx hb (show decode prog_19_method_11_code 5 = .ok (.iload_n 1, 1) by decide +kernel) rfl (lv_at hl 1 rfl) ?_
  refine lv_icmp_lt hx hb (show decode prog_19_method_11_code 6 = .ok (.if_icmp .lt 10, 3) by decide +kernel) (tgt := 16) (by decide) (fun _ => ?_) (fun h => absurd h1 h)
  refine lv_iload_n hx hb (show decode prog_19_method_11_code 16 = .ok (.iload_n 0, 1) by decide +kernel) rfl (lv_at hl 0 rfl) ?_
  exact W.iret hx hb hr (fun t ht _ => ⟨rfl, ht⟩) (fun _ h => by cases h) (show decode prog_19_method_11_code 17 = .ok (.ireturn, 1) by decide +kernel)

theorem js_preR (l : Launch) (Bz : Nat) (i k : Int32) (tt : Nat) (h0 : 0 ≤ i) (h1 : i < k) : Met l js_y_pre js_w_pre (js_rm 0) (va_Pc [.int i, .int k, .ref tt] (fun _ => True)) (js_Q (some (.int i))) 0 0 (fun _ => False) := by
  refine Met.ofW (cc := prog_19_method_11_code) (maxL := 3) (ret := (some .int)) (by decide) rfl ?_
  intro p e s m args below meth c s₁ B hml hv
  obtain ⟨rfl, hv⟩ := hv
  have hx := B.exec
  have hb := B.bytes
  have hr := B.returns
  have hts := atoms_spec (ws := js_w_pre) B.pre
  have hown : s.vm.findClass "jdk/internal/util/Preconditions" = some m.cls := findClass_of_methodNamed B.named
  have hlocks := B.notSynchronized
  have hS : va_S (am_A Bz) s.heap s.heap [] := va_S.rf
  have hl := lv_entry ([.int i, .int k, .ref tt]) (n := 3) (Nat.le_of_ble_eq_true rfl)
  rw [lg_entry_eq]
  generalize (lg_sl ([.int i, .int k, .ref tt]) ++ List.replicate (3 - (lg_sl ([.int i, .int k, .ref tt])).length) Slot.unset).toArray = ls at hl ⊢
  have hl : lv_has ls 3 [(0, .int i), (1, .int k), (2, .ref tt)] := hl
  refine lv_iload_n hx hb (show decode prog_19_method_11_code 0 = .ok (.iload_n 0, 1) by decide +kernel) rfl (lv_at hl 0 rfl) ?_
  refine lv_if_lt hx hb (show decode prog_19_method_11_code 1 = .ok (.ifCond .lt 8, 3) by decide +kernel) (tgt := 9) (by decide) (fun h => absurd h (Int32.not_lt.mpr h0)) (fun _ => ?_)
  refine lv_iload_n hx hb (show decode prog_19_method_11_code 4 = .ok (.iload_n 0, 1) by decide +kernel) rfl (lv_at hl 0 rfl) ?_
  refine lv_iload_n hx hb (show decode prog_19_method_11_code 5 = .ok (.iload_n 1, 1) by decide +kernel) rfl (lv_at hl 1 rfl) ?_
  refine lv_icmp_lt hx hb (show decode prog_19_method_11_code 6 = .ok (.if_icmp .lt 10, 3) by decide +kernel) (tgt := 16) (by decide) (fun _ => ?_) (fun h => absurd h1 h)
  refine lv_iload_n hx hb (show decode prog_19_method_11_code 16 = .ok (.iload_n 0, 1) by decide +kernel) rfl (lv_at hl 0 rfl) ?_
  exact W.iret hx hb hr (fun t ht _ => ⟨rfl, ht⟩) (fun _ h => by cases h) (show decode prog_19_method_11_code 17 = .ok (.ireturn, 1) by decide +kernel)

theorem js_chk (l : Launch) (Bz q av n : Nat) (f : Nat → Value) (i : Int32) (h0 : 0 ≤ i) (h1 : i < Int32.ofNat n) : Met l js_y_chk js_w_chk (js_rm 1) (va_Pc [.int i, .int (Int32.ofNat n)] (js_U Bz q av n f)) (js_Q none) 0 0 (fun _ => False) := by
  refine Met.ofW (cc := prog_14_method_155_code) (maxL := 2) (ret := none) (by decide) rfl ?_
  intro p e s m args below meth c s₁ B hml hv
  obtain ⟨rfl, hv⟩ := hv
  have hx := B.exec
  have hb := B.bytes
  have hr := B.returns
  have hts := atoms_spec (ws := js_w_chk) B.pre
  have hown : s.vm.findClass "java/lang/String" = some m.cls := findClass_of_methodNamed B.named
  have hlocks := B.notSynchronized
  have hS : va_S (am_A Bz) s.heap s.heap [] := va_S.rf
  have hl := lv_entry ([.int i, .int (Int32.ofNat n)]) (n := 2) (Nat.le_of_ble_eq_true rfl)
  rw [lg_entry_eq]
  generalize (lg_sl ([.int i, .int (Int32.ofNat n)]) ++ List.replicate (2 - (lg_sl ([.int i, .int (Int32.ofNat n)])).length) Slot.unset).toArray = ls at hl ⊢
  have hl : lv_has ls 2 [(0, .int i), (1, .int (Int32.ofNat n))] := hl
  obtain ⟨-, -, -, -, -, h6⟩ := hv
  refine lv_iload_n hx hb (show decode prog_14_method_155_code 0 = .ok (.iload_n 0, 1) by decide +kernel) rfl (lv_at hl 0 rfl) ?_
  refine lv_iload_n hx hb (show decode prog_14_method_155_code 1 = .ok (.iload_n 1, 1) by decide +kernel) rfl (lv_at hl 1 rfl) ?_
  rcases h6 with hz | ⟨tt, hz⟩
  · refine va_gets hx hb hz hS hown (hts _ (List.mem_cons_of_mem _ (am_gT_of (i := 675) (by decide +kernel) (by decide +kernel)))) (fun _ h => h) (show decode prog_14_method_155_code 2 = .ok (.getstatic 1053, 3) by decide +kernel) ?_
    have hcw : CallB (headSpec js_w_chk (js_rm 1)).room s ([.int i, .int (Int32.ofNat n)] : List Value).toArray "java/lang/String" 1059 js_y_pre prog_19_method_11_code 3 (some .int) js_w_pre (js_rm 0) 0 0 3 ∧ (Cond.static js_y_pre).before ([.int i, .int (Int32.ofNat n)] : List Value).toArray s = true := ⟨callB_of (Ts := am_gT) 3 (fun w hw => hts w (List.mem_cons_of_mem _ hw)) (js_good js_c_pre) rfl rfl rfl (hts _ (List.mem_cons_of_mem _ (am_gT_of (i := 123) (by decide +kernel) (by decide +kernel)))) (hts _ (List.mem_cons_of_mem _ (am_gT_of (i := 677) (by decide +kernel) (by decide +kernel)))) (by decide +kernel) ⟨Nat.le_of_ble_eq_true rfl, Nat.le_of_ble_eq_true rfl⟩, (hts _ (List.mem_cons_of_mem _ (am_gT_of (i := 678) (by decide +kernel) (by decide +kernel))))⟩
    refine js_callW (va_runS (Ts := am_gT) (As := [.int i, .int (Int32.ofNat n), .null]) (rest := []) (own := "java/lang/String") (nL := 2) ⟨hx, hb, hml, hown, fun w hw => hts w (List.mem_cons_of_mem _ hw)⟩ (js_preN l Bz i (Int32.ofNat n) 0 h0 h1) hcw ⟨fun a U g mk h => ⟨h.1, trivial⟩, fun U hU hW => ⟨rfl, trivial⟩⟩ rfl rfl hl.1 rfl (lv_room (Nat.le_of_ble_eq_true rfl)) (show decode prog_14_method_155_code 5 = .ok (.invokestatic 1059, 3) by decide +kernel) ⟨Nat.le_refl _, Nat.le_refl _⟩) ?_
    refine lv_pop hx hb (show decode prog_14_method_155_code 8 = .ok (.pop, 1) by decide +kernel) rfl ?_
    exact W.vret hx hb hr (fun t ht _ => ⟨rfl, ht⟩) (fun _ h => by cases h) (show decode prog_14_method_155_code 9 = .ok (.return_, 1) by decide +kernel)
  · refine va_gets hx hb hz hS hown (hts _ (List.mem_cons_of_mem _ (am_gT_of (i := 675) (by decide +kernel) (by decide +kernel)))) (fun _ h => h) (show decode prog_14_method_155_code 2 = .ok (.getstatic 1053, 3) by decide +kernel) ?_
    have hcw : CallB (headSpec js_w_chk (js_rm 1)).room s ([.int i, .int (Int32.ofNat n)] : List Value).toArray "java/lang/String" 1059 js_y_pre prog_19_method_11_code 3 (some .int) js_w_pre (js_rm 0) 0 0 3 ∧ (Cond.static js_y_pre).before ([.int i, .int (Int32.ofNat n)] : List Value).toArray s = true := ⟨callB_of (Ts := am_gT) 3 (fun w hw => hts w (List.mem_cons_of_mem _ hw)) (js_good js_c_pre) rfl rfl rfl (hts _ (List.mem_cons_of_mem _ (am_gT_of (i := 123) (by decide +kernel) (by decide +kernel)))) (hts _ (List.mem_cons_of_mem _ (am_gT_of (i := 677) (by decide +kernel) (by decide +kernel)))) (by decide +kernel) ⟨Nat.le_of_ble_eq_true rfl, Nat.le_of_ble_eq_true rfl⟩, (hts _ (List.mem_cons_of_mem _ (am_gT_of (i := 678) (by decide +kernel) (by decide +kernel))))⟩
    refine js_callW (va_runS (Ts := am_gT) (As := [.int i, .int (Int32.ofNat n), .ref tt]) (rest := []) (own := "java/lang/String") (nL := 2) ⟨hx, hb, hml, hown, fun w hw => hts w (List.mem_cons_of_mem _ hw)⟩ (js_preR l Bz i (Int32.ofNat n) tt h0 h1) hcw ⟨fun a U g mk h => ⟨h.1, trivial⟩, fun U hU hW => ⟨rfl, trivial⟩⟩ rfl rfl hl.1 rfl (lv_room (Nat.le_of_ble_eq_true rfl)) (show decode prog_14_method_155_code 5 = .ok (.invokestatic 1059, 3) by decide +kernel) ⟨Nat.le_refl _, Nat.le_refl _⟩) ?_
    refine lv_pop hx hb (show decode prog_14_method_155_code 8 = .ok (.pop, 1) by decide +kernel) rfl ?_
    exact W.vret hx hb hr (fun t ht _ => ⟨rfl, ht⟩) (fun _ h => by cases h) (show decode prog_14_method_155_code 9 = .ok (.return_, 1) by decide +kernel)

theorem js_chr : ∀ c, c < 128 → ((Int32.ofInt ((c : Nat) : Int) &&& 255).toUInt32 % 65536).toInt32 = Int32.ofInt ((c : Nat) : Int) ∧ narrow .char (.int (Int32.ofInt ((c : Nat) : Int))) = .int (Int32.ofInt ((c : Nat) : Int)) := by decide +kernel

theorem js_lat (l : Launch) (Bz q av n : Nat) (f : Nat → Value) (hn : n < 65536) (i : Nat) (hi : i < n) (ch : Nat) (hch : ch < 128) (hf : f i = .int (Int32.ofInt ch)) : Met l js_y_lat js_w_lat (js_rm 2) (va_Pc [.ref av, .int (Int32.ofNat i)] (js_U Bz q av n f)) (js_Q (some (.int (Int32.ofInt ch)))) 0 0 (fun _ => False) := by
  refine Met.ofW (cc := prog_15_method_2_code) (maxL := 2) (ret := (some .char)) (by decide) rfl ?_
  intro p e s m args below meth c s₁ B hml hv
  obtain ⟨rfl, hv⟩ := hv
  have hx := B.exec
  have hb := B.bytes
  have hr := B.returns
  have hts := atoms_spec (ws := js_w_lat) B.pre
  have hown : s.vm.findClass "java/lang/StringLatin1" = some m.cls := findClass_of_methodNamed B.named
  have hlocks := B.notSynchronized
  have hS : va_S (am_A Bz) s.heap s.heap [] := va_S.rf
  have hl := lv_entry ([.ref av, .int (Int32.ofNat i)]) (n := 2) (Nat.le_of_ble_eq_true rfl)
  rw [lg_entry_eq]
  generalize (lg_sl ([.ref av, .int (Int32.ofNat i)]) ++ List.replicate (2 - (lg_sl ([.ref av, .int (Int32.ofNat i)])).length) Slot.unset).toArray = ls at hl ⊢
  have hl : lv_has ls 2 [(0, .ref av), (1, .int (Int32.ofNat i))] := hl
  have hv0 := hv
  obtain ⟨h1, h2, h3, h4, h5, h6⟩ := hv
  refine lv_iload_n hx hb (show decode prog_15_method_2_code 0 = .ok (.iload_n 1, 1) by decide +kernel) rfl (lv_at hl 1 rfl) ?_
  refine lv_aload_n hx hb (show decode prog_15_method_2_code 1 = .ok (.aload_n 0, 1) by decide +kernel) rfl (lv_at hl 0 rfl) ?_
  refine va_tlen hx hb h4 hS rfl (show decode prog_15_method_2_code 2 = .ok (.arraylength, 1) by decide +kernel) ?_
  have hcw : CallB (headSpec js_w_lat (js_rm 2)).room s ([.ref av, .int (Int32.ofNat i)] : List Value).toArray "java/lang/StringLatin1" 9 js_y_chk prog_14_method_155_code 2 none js_w_chk (js_rm 1) 0 0 2 ∧ (Cond.static js_y_chk).before ([.ref av, .int (Int32.ofNat i)] : List Value).toArray s = true := ⟨callB_of (Ts := am_gT) 2 (fun w hw => hts w (List.mem_cons_of_mem _ hw)) (js_good js_c_chk) rfl rfl rfl (hts _ (List.mem_cons_of_mem _ (am_gT_of (i := 121) (by decide +kernel) (by decide +kernel)))) (hts _ (List.mem_cons_of_mem _ (am_gT_of (i := 672) (by decide +kernel) (by decide +kernel)))) (by decide +kernel) ⟨Nat.le_of_ble_eq_true rfl, Nat.le_of_ble_eq_true rfl⟩, (hts _ (List.mem_cons_of_mem _ (am_gT_of (i := 673) (by decide +kernel) (by decide +kernel))))⟩
  refine js_callW (va_runS (Ts := am_gT) (As := [.int (Int32.ofNat i), .int (Int32.ofNat n)]) (rest := []) (own := "java/lang/StringLatin1") (nL := 2) ⟨hx, hb, hml, hown, fun w hw => hts w (List.mem_cons_of_mem _ hw)⟩ (js_chk l Bz q av n f (Int32.ofNat i) (nI_pos' (by omega)) (nI_lt hi (by omega))) hcw ⟨js_blind, fun U hU hW => ⟨rfl, hv0.to hW.alike hU⟩⟩ rfl rfl hl.1 rfl (lv_room (Nat.le_of_ble_eq_true rfl)) (show decode prog_15_method_2_code 3 = .ok (.invokestatic 9, 3) by decide +kernel) ⟨Nat.le_refl _, Nat.le_refl _⟩) ?_
  refine lv_aload_n hx hb (show decode prog_15_method_2_code 6 = .ok (.aload_n 0, 1) by decide +kernel) rfl (lv_at hl 0 rfl) ?_
  refine lv_iload_n hx hb (show decode prog_15_method_2_code 7 = .ok (.iload_n 1, 1) by decide +kernel) rfl (lv_at hl 1 rfl) ?_
  refine va_tb hx hb h4 hS (vp_in_nI hi (by omega)) (v := .int (Int32.ofInt ch)) (by rw [show (Int32.ofNat i).toNatClampNeg = i from nI_clamp (by omega)]; exact hf) (show decode prog_15_method_2_code 8 = .ok (.baload, 1) by decide +kernel) ?_
  refine lv_sipush (v := 255) hx hb (show decode prog_15_method_2_code 9 = .ok (.sipush 255, 3) by decide +kernel) (by decide) ?_
  refine lv_iand hx hb (show decode prog_15_method_2_code 12 = .ok (.iand, 1) by decide +kernel) ?_
  refine lv_i2c hx hb (show decode prog_15_method_2_code 13 = .ok (.i2c, 1) by decide +kernel) (js_chr ch hch).1 ?_
  exact W.zret hx hb hr (js_chr ch hch).2 (fun t ht _ => ⟨rfl, ht⟩) (fun _ h => by cases h) (show decode prog_15_method_2_code 14 = .ok (.ireturn, 1) by decide +kernel)

theorem js_charAt (l : Launch) (Bz q av n : Nat) (f : Nat → Value) (hn : n < 65536) (i : Nat) (hi : i < n) (ch : Nat) (hch : ch < 128) (hf : f i = .int (Int32.ofInt ch)) : Met l js_y_charAt js_w_charAt (js_rm 3) (va_Pc [.ref q, .int (Int32.ofNat i)] (js_U Bz q av n f)) (js_Q (some (.int (Int32.ofInt ch)))) 0 0 (fun _ => False) := by
  refine Met.ofW (cc := prog_14_method_56_code) (maxL := 2) (ret := (some .char)) (by decide) rfl ?_
  intro p e s m args below meth c s₁ B hml hv
  obtain ⟨rfl, hv⟩ := hv
  have hx := B.exec
  have hb := B.bytes
  have hr := B.returns
  have hts := atoms_spec (ws := js_w_charAt) B.pre
  have hown : s.vm.findClass "java/lang/String" = some m.cls := findClass_of_methodNamed B.named
  have hlocks := B.notSynchronized
  have hS : va_S (am_A Bz) s.heap s.heap [] := va_S.rf
  have hl := lv_entry ([.ref q, .int (Int32.ofNat i)]) (n := 2) (Nat.le_of_ble_eq_true rfl)
  rw [lg_entry_eq]
  generalize (lg_sl ([.ref q, .int (Int32.ofNat i)]) ++ List.replicate (2 - (lg_sl ([.ref q, .int (Int32.ofNat i)])).length) Slot.unset).toArray = ls at hl ⊢
  have hl : lv_has ls 2 [(0, .ref q), (1, .int (Int32.ofNat i))] := hl
  have hv0 := hv
  obtain ⟨h1, h2, h3, h4, h5, h6⟩ := hv
  refine lv_aload_n hx hb (show decode prog_14_method_56_code 0 = .ok (.aload_n 0, 1) by decide +kernel) rfl (lv_at hl 0 rfl) ?_
  have hcw : CallW (headSpec js_w_charAt (js_rm 3)).room s ([.ref q, .int (Int32.ofNat i)] : List Value).toArray "java/lang/String" "java/lang/String" 492 js_y_isLatin1 prog_14_method_154_code 1 (some .boolean) js_w_isLatin1 (js_rm 0) 0 0 0 := ⟨callB_of (Ts := am_gT) 0 (fun w hw => hts w (List.mem_cons_of_mem _ hw)) (js_good js_c_isLatin1) rfl rfl rfl (hts _ (List.mem_cons_of_mem _ (am_gT_of (i := 121) (by decide +kernel) (by decide +kernel)))) (hts _ (List.mem_cons_of_mem _ (am_gT_of (i := 665) (by decide +kernel) (by decide +kernel)))) (by decide +kernel) ⟨Nat.le_of_ble_eq_true rfl, Nat.le_of_ble_eq_true rfl⟩, (hts _ (List.mem_cons_of_mem _ (am_gT_of (i := 666) (by decide +kernel) (by decide +kernel)))), (hts _ (List.mem_cons_of_mem _ (am_gT_of (i := 667) (by decide +kernel) (by decide +kernel))))⟩
  refine js_callW (va_runV (Ts := am_gT) (As := []) (rest := []) (C := "java/lang/String") (own := "java/lang/String") (nL := 2) ⟨hx, hb, hml, hown, fun w hw => hts w (List.mem_cons_of_mem _ hw)⟩ (js_isLatin1 l Bz q av n f) hcw ⟨js_blind, (js_recv h1), fun U hU hW => ⟨rfl, hv0.to hW.alike hU⟩⟩ rfl rfl hl.1 rfl (lv_room (Nat.le_of_ble_eq_true rfl)) (show decode prog_14_method_56_code 1 = .ok (.invokevirtual 492, 3) by decide +kernel) ⟨Nat.le_refl _, Nat.le_refl _⟩) ?_
  refine lv_if_eq hx hb (show decode prog_14_method_56_code 4 = .ok (.ifCond .eq 12, 3) by decide +kernel) (tgt := 16) (by decide) (fun h => absurd h (by decide)) (fun _ => ?_)
  refine lv_aload_n hx hb (show decode prog_14_method_56_code 7 = .ok (.aload_n 0, 1) by decide +kernel) rfl (lv_at hl 0 rfl) ?_
  refine vk_getf hx hb h3 hS hown (hts _ (List.mem_cons_of_mem _ (am_gT_of (i := 1870) (by decide +kernel) (by decide +kernel)))) (fun _ h => h) (show decode prog_14_method_56_code 8 = .ok (.getfield 9, 3) by decide +kernel) ?_
  refine lv_iload_n hx hb (show decode prog_14_method_56_code 11 = .ok (.iload_n 1, 1) by decide +kernel) rfl (lv_at hl 1 rfl) ?_
  have hcw2 : CallB (headSpec js_w_charAt (js_rm 3)).room s ([.ref q, .int (Int32.ofNat i)] : List Value).toArray "java/lang/String" 495 js_y_lat prog_15_method_2_code 2 (some .char) js_w_lat (js_rm 2) 0 0 2 ∧ (Cond.static js_y_lat).before ([.ref q, .int (Int32.ofNat i)] : List Value).toArray s = true := ⟨callB_of (Ts := am_gT) 2 (fun w hw => hts w (List.mem_cons_of_mem _ hw)) (js_good js_c_lat) rfl rfl rfl (hts _ (List.mem_cons_of_mem _ (am_gT_of (i := 122) (by decide +kernel) (by decide +kernel)))) (hts _ (List.mem_cons_of_mem _ (am_gT_of (i := 669) (by decide +kernel) (by decide +kernel)))) (by decide +kernel) ⟨Nat.le_of_ble_eq_true rfl, Nat.le_of_ble_eq_true rfl⟩, (hts _ (List.mem_cons_of_mem _ (am_gT_of (i := 670) (by decide +kernel) (by decide +kernel))))⟩
  refine js_callW (va_runS (Ts := am_gT) (As := [.ref av, .int (Int32.ofNat i)]) (rest := []) (own := "java/lang/String") (nL := 2) ⟨hx, hb, hml, hown, fun w hw => hts w (List.mem_cons_of_mem _ hw)⟩ (js_lat l Bz q av n f hn i hi ch hch hf) hcw2 ⟨js_blind, fun U hU hW => ⟨rfl, hv0.to hW.alike hU⟩⟩ rfl rfl hl.1 rfl (lv_room (Nat.le_of_ble_eq_true rfl)) (show decode prog_14_method_56_code 12 = .ok (.invokestatic 495, 3) by decide +kernel) ⟨Nat.le_refl _, Nat.le_refl _⟩) ?_
  exact W.zret hx hb hr (js_chr ch hch).2 (fun t ht _ => ⟨rfl, ht⟩) (fun _ h => by cases h) (show decode prog_14_method_56_code 15 = .ok (.ireturn, 1) by decide +kernel)
