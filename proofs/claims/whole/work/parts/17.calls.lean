section AmOps
variable {l : Launch} {D : va_G} {cy : Nat → ClassId} {Bz : Nat} {ext : Int → Nat} {L : Int} {xs : Int → Int} {mi : Nat} {p : Program} {e : Env} {R : Room} {s : State} {m : MethodId} {args : Array Value} {below : List Frame} {meth : Method} {c : Code} {M0 : am_M} {Qf : State → Prop} {pc : Nat} {ls st : List am_V} {M : am_M}
theorem am_callW {cells slots mc ms : Nat} {H : Heap} {locs : List Loc} {lr : Array Slot} {st0 rest : List Value} {aa : Array Value} {r : List am_V} {M2 : am_M} (hr : va_Run p l e R s m args below meth c H locs cells slots mc ms (F0 m pc lr st0) rest (am_Qc D cy Bz ext L xs r M2 aa) (am_A Bz)) (hlo : va_S (am_A Bz) s.heap H locs)
    (kk : ∀ (H1 : Heap) (locs1 : List Loc), am_MR D cy Bz ext M2 H1 → va_S (am_A Bz) s.heap H1 locs1 → am_ok L xs M2 → am_SR r → r.length ≤ 1 → W p l e R s m args below meth c H1 locs1 (cells + mc) (slots + ms) Qf (F0 m (pc + 3) lr (r.map (am_rv Bz ext) ++ rest))) : W p l e R s m args below meth c H locs cells slots Qf (F0 m pc lr st0) := by
  intro T hT X
  obtain ⟨v, st₀, t, T', L1, h0, X', hL, e1, e2, ⟨hv, hm, hF, hok, hsr, hl1⟩, st⟩ := hr T hT X
  have hv : v = am_ro Bz ext r := by cases hv; rfl
  subst hv
  obtain ⟨hz, hk⟩ := hF
  rw [h0] at hz hk
  obtain ⟨t2, a1, b1⟩ := kk T'.heap (locs ++ L1) (by rw [e1]; exact hm) ⟨Nat.le_trans hlo.1 (by rw [e1]; exact hz), fun q h1 h2 => by rw [e1, hk q (Nat.lt_of_lt_of_le h1 hlo.1) h2]; exact hlo.2.1 q h1 h2, fun q hq => by
      rcases List.mem_append.mp hq with h | h
      · exact hlo.2.2 q h
      · exact hL q h⟩ hok hsr hl1 T' rfl X'
  refine ⟨t2, st t2 ?_, b1⟩
  have e : (am_ro Bz ext r).toList = r.map (am_rv Bz ext) := by
    unfold am_ro
    match r, hl1 with
    | [], _ => rfl
    | [v], _ => rfl
  show Steps p.tables _ below (T'.setTop { F0 m pc lr st0 with pc := pc + 3, stack := (am_ro Bz ext r).toList ++ rest }) t2
  rw [e]
  exact a1
theorem am_s_stat (X : am_Cx D cy mi p s m args meth c) {adV : Nat → Nat} {y z i : Nat} {r : List am_V} {M2 : am_M} {d : Nat} (hd : decode (am_by mi) pc = .ok (.invokestatic i, 3)) (hq : (am_oc mi, i, y) ∈ am_mlA) (hsm : y ∈ am_sm) (hEx : am_Ex Bz ext adV L xs s s.heap) (hchk : am_chk y = true) (hnp : am_np y = z) (hg1 : M.1 ≤ M2.1) (hg2 : M.2.1 ≤ M2.2.1) (hfr : d + 1 ≤ R.frames) (hlc : 100 * d + 100 ≤ R.locals) (hr1 : M2.1 - M0.1 ≤ (R.cells : Int)) (hr2 : M2.2.1 - M0.2.1 ≤ (R.slots : Int)) (hs0 : s.heap.size = Bz + M0.1.toNat) (hz0 : 0 ≤ M0.1) (hlen : z ≤ st.length) (hcw : am_cw (st.drop z) ≤ 8) (hM : Met l (am_yn y) (am_wds y) (am_rm d (M2.1 - M.1).toNat (M2.2.1 - M.2.1).toNat) (am_Pc D cy Bz ext adV L xs ((st.take z).reverse) M) (am_Qc D cy Bz ext L xs r M2) (M2.1 - M.1).toNat (M2.2.1 - M.2.1).toNat (am_A Bz)) (k : (am_At l D cy Bz ext L xs mi p e R s m args below meth c M0 Qf (pc + 3) (ls) (r ++ st.drop z) (M2))) : (am_At l D cy Bz ext L xs mi p e R s m args below meth c M0 Qf (pc) (ls) (st) (M)) := by
  intro hok hst h1 h2 lr H locs hl hm hlo
  refine am_W_sz (fun hz => ?_)
  have hbz1 : Bz ≤ H.size := Nat.le_trans (by omega) hlo.1
  have hsz : H.size = Bz + M.1.toNat := by
    have q1 := hm.size hbz1
    have q2 := hok.1
    omega
  obtain ⟨c1, c2, c3, c4⟩ := am_chk_mx hchk
  have hcb : CallB R s args (am_ocn (am_oc mi)) i (am_yn y) (am_by y) (am_mx y) (am_rt y) (am_wds y) (am_rm d (M2.1 - M.1).toNat (M2.2.1 - M.2.1).toNat) (M2.1 - M.1).toNat (M2.2.1 - M.2.1).toNat z := callB_of z X.2.2.2.2.1 (am_wds_good (am_sm_in y hsm).1 (am_sm_in y hsm).2) rfl rfl rfl (by rw [c1]; exact X.2.2.2.2.1 _ (am_ic_ok c4)) (X.2.2.2.2.1 _ (am_mlA_ok hq)) (hnp ▸ c2) ⟨hfr, by show 8 + (am_mx y + 11) + 100 * d ≤ R.locals; omega⟩
  have hrun := va_runS (H := H) (locs := locs) (cells := (M.1 - M0.1).toNat) (slots := (M.2.1 - M0.2.1).toNat) (below := below) (meth := meth) (e := e) (g := F0 m pc lr (st.map (am_rv Bz ext))) (As := (((st.take z).reverse).map (am_rv Bz ext))) (rest := (st.drop z).map (am_rv Bz ext)) (Ts := am_gT) (nL := am_mx mi) (cc := am_by mi) (own := am_ocn (am_oc mi)) ⟨X.1, X.2.1, X.2.2.1, X.2.2.2.1, X.2.2.2.2.1⟩ hM ⟨hcb, X.2.2.2.2.1 _ (am_sm_ok hsm)⟩ ⟨am_blind, (fun U hU hW => ⟨rfl, by rw [hU]; exact hsz, by rw [hU]; exact hm, va_K.moved hW.alike X.2.2.2.2.2.1, X.2.2.2.2.2.2.1.warm hW, by rw [hU]; exact hEx.warm hW hlo.2.1⟩)⟩ rfl (by rw [List.length_map, List.length_reverse, List.length_take]; omega) hl.2.1 (by
    show st.map (am_rv Bz ext) = _
    rw [← List.map_reverse, List.reverse_reverse, ← List.map_append, List.take_append_drop]) (by
    show 2 * 0 + _ ≤ 8
    rw [am_cw_of Bz ext (fun v hv => hst v (List.mem_of_mem_drop hv))]; omega) hd ⟨by omega, by omega⟩
  refine am_callW hrun hlo (fun H1 locs1 hm1 hlo1 hok1 hsr1 hl1 => ?_)
  have kk := k hok1 (fun v hv => (List.mem_append.mp hv).elim (hsr1 v) (fun h => hst v (List.mem_of_mem_drop h))) (by omega) (by omega) lr H1 locs1 hl hm1 hlo1
  rw [show ((M2.1 - M0.1).toNat) = (M.1 - M0.1).toNat + (M2.1 - M.1).toNat by omega, show ((M2.2.1 - M0.2.1).toNat) = (M.2.1 - M0.2.1).toNat + (M2.2.1 - M.2.1).toNat by omega, List.map_append] at kk
  exact kk

theorem am_s_virt (X : am_Cx D cy mi p s m args meth c) {adV : Nat → Nat} {b : Int} {y z i : Nat} {r : List am_V} {M2 : am_M} {d : Nat} (hd : decode (am_by mi) pc = .ok (.invokevirtual i, 3)) (hq : (am_oc mi, i, y) ∈ am_mlA) (hvm : y ∈ am_vm) (hb0 : am_kd M b = am_oc y) (h9 : am_oc y < 9) (hEx : am_Ex Bz ext adV L xs s s.heap) (hchk : am_chk y = true) (hnp : am_np y = z) (hg1 : M.1 ≤ M2.1) (hg2 : M.2.1 ≤ M2.2.1) (hfr : d + 1 ≤ R.frames) (hlc : 100 * d + 100 ≤ R.locals) (hr1 : M2.1 - M0.1 ≤ (R.cells : Int)) (hr2 : M2.2.1 - M0.2.1 ≤ (R.slots : Int)) (hs0 : s.heap.size = Bz + M0.1.toNat) (hz0 : 0 ≤ M0.1) (hlen : z + 1 ≤ st.length) (hbz : st.getD z (9, 0) = (2, b)) (hcw : am_cw (st.drop (z + 1)) ≤ 8) (hM : Met l (am_yn y) (am_wds y) (am_rm d (M2.1 - M.1).toNat (M2.2.1 - M.2.1).toNat) (am_Pc D cy Bz ext adV L xs ((st.take (z + 1)).reverse) M) (am_Qc D cy Bz ext L xs r M2) (M2.1 - M.1).toNat (M2.2.1 - M.2.1).toNat (am_A Bz)) (k : (am_At l D cy Bz ext L xs mi p e R s m args below meth c M0 Qf (pc + 3) (ls) (r ++ st.drop (z + 1)) (M2))) : (am_At l D cy Bz ext L xs mi p e R s m args below meth c M0 Qf (pc) (ls) (st) (M)) := by
  intro hok hst h1 h2 lr H locs hl hm hlo
  refine am_W_sz (fun hz => ?_)
  have hbz1 : Bz ≤ H.size := Nat.le_trans (by omega) hlo.1
  have hsz : H.size = Bz + M.1.toNat := by
    have q1 := hm.size hbz1
    have q2 := hok.1
    omega
  obtain ⟨c1, c2, c3, c4⟩ := am_chk_mx hchk
  obtain ⟨g0, g1⟩ := hok.2.2.1 b (by omega)
  have hat := am_ws_at (cy := cy) (Bz := Bz) (ext := ext) (M := M) g0 g1
  rw [am_re_o (by omega), hb0] at hat
  have hbe : st[z]? = some (2, b) := by
    rw [List.getD_eq_getElem?_getD, List.getElem?_eq_getElem (by omega)] at hbz
    rw [List.getElem?_eq_getElem (by omega)]
    exact congrArg some hbz
  have htk : (st.take (z + 1)).reverse = (2, b) :: (st.take z).reverse := by
    rw [List.take_add_one, hbe, List.reverse_append]
    rfl
  have hargs : ((st.take (z + 1)).reverse).map (am_rv Bz ext) = .ref (Bz + b.toNat) :: ((st.take z).reverse).map (am_rv Bz ext) := by
    rw [htk, List.map_cons, am_rv2p g0]
  have hcb : CallW R s args (am_ocn (am_oc mi)) (am_ocn (am_oc y)) i (am_yn y) (am_by y) (am_mx y) (am_rt y) (am_wds y) (am_rm d (M2.1 - M.1).toNat (M2.2.1 - M.2.1).toNat) (M2.1 - M.1).toNat (M2.2.1 - M.2.1).toNat z := ⟨callB_of z X.2.2.2.2.1 (am_wds_good (am_im_in y (am_vm_in y hvm)).1 (am_im_in y (am_vm_in y hvm)).2) rfl rfl rfl (by rw [c1]; exact X.2.2.2.2.1 _ (am_ic_ok c4)) (X.2.2.2.2.1 _ (am_mlA_ok hq)) (hnp ▸ c2) ⟨hfr, by show 8 + (am_mx y + 11) + 100 * d ≤ R.locals; omega⟩, X.2.2.2.2.1 _ (am_im_ok (am_vm_in y hvm)), by rw [← am_on_oc y (am_im_in y (am_vm_in y hvm)).1]; exact X.2.2.2.2.1 _ (am_vm_ok hvm)⟩
  have hrun := va_runV (H := H) (locs := locs) (cells := (M.1 - M0.1).toNat) (slots := (M.2.1 - M0.2.1).toNat) (below := below) (meth := meth) (e := e) (g := F0 m pc lr (st.map (am_rv Bz ext))) (b := Bz + b.toNat) (As := ((st.take z).reverse).map (am_rv Bz ext)) (rest := (st.drop (z + 1)).map (am_rv Bz ext)) (Ts := am_gT) (nL := am_mx mi) (cc := am_by mi) (own := am_ocn (am_oc mi)) ⟨X.1, X.2.1, X.2.2.1, X.2.2.2.1, X.2.2.2.2.1⟩ hM hcb ⟨am_blind, va_recv X.2.2.2.2.2.1 hm (am_clat h9) hat, (fun U hU hW => ⟨by rw [← hargs], by rw [hU]; exact hsz, by rw [hU]; exact hm, va_K.moved hW.alike X.2.2.2.2.2.1, X.2.2.2.2.2.2.1.warm hW, by rw [hU]; exact hEx.warm hW hlo.2.1⟩)⟩ rfl (by rw [List.length_map, List.length_reverse, List.length_take]; omega) hl.2.1 (by
    show st.map (am_rv Bz ext) = _
    have e1 : (((st.take z).reverse).map (am_rv Bz ext)).reverse ++ Value.ref (Bz + b.toNat) :: (st.drop (z + 1)).map (am_rv Bz ext) = (st.take z ++ (2, b) :: st.drop (z + 1)).map (am_rv Bz ext) := by
      rw [← List.map_reverse, List.reverse_reverse, List.map_append, List.map_cons, am_rv2p g0]
    rw [e1]
    refine congrArg (List.map (am_rv Bz ext)) ?_
    have e2 := List.take_append_drop z st
    rw [List.drop_eq_getElem_cons (by omega)] at e2
    rw [List.getElem?_eq_getElem (by omega)] at hbe
    rw [Option.some.inj hbe] at e2
    exact e2.symm) (by
    show 2 * 0 + _ ≤ 8
    rw [am_cw_of Bz ext (fun v hv => hst v (List.mem_of_mem_drop hv))]; omega) hd ⟨by omega, by omega⟩
  refine am_callW hrun hlo (fun H1 locs1 hm1 hlo1 hok1 hsr1 hl1 => ?_)
  have kk := k hok1 (fun v hv => (List.mem_append.mp hv).elim (hsr1 v) (fun h => hst v (List.mem_of_mem_drop h))) (by omega) (by omega) lr H1 locs1 hl hm1 hlo1
  rw [show ((M2.1 - M0.1).toNat) = (M.1 - M0.1).toNat + (M2.1 - M.1).toNat by omega, show ((M2.2.1 - M0.2.1).toNat) = (M.2.1 - M0.2.1).toNat + (M2.2.1 - M.2.1).toNat by omega, List.map_append] at kk
  exact kk

theorem am_s_spec (X : am_Cx D cy mi p s m args meth c) {adV : Nat → Nat} {b : Int} {y z i : Nat} {r : List am_V} {M2 : am_M} {d : Nat} (hd : decode (am_by mi) pc = .ok (.invokespecial i, 3)) (hq : (am_oc mi, i, y) ∈ am_mlA) (him : y ∈ am_im) (hnm : (am_yn y).name = "<init>") (hrt : am_rt y = none) (hb0 : am_kd M b = am_oc y) (h9 : am_oc y < 9) (hEx : am_Ex Bz ext adV L xs s s.heap) (hchk : am_chk y = true) (hnp : am_np y = z) (hg1 : M.1 ≤ M2.1) (hg2 : M.2.1 ≤ M2.2.1) (hfr : d + 1 ≤ R.frames) (hlc : 100 * d + 100 ≤ R.locals) (hr1 : M2.1 - M0.1 ≤ (R.cells : Int)) (hr2 : M2.2.1 - M0.2.1 ≤ (R.slots : Int)) (hs0 : s.heap.size = Bz + M0.1.toNat) (hz0 : 0 ≤ M0.1) (hlen : z + 1 ≤ st.length) (hbz : st.getD z (9, 0) = (2, b)) (hcw : am_cw (st.drop (z + 1)) ≤ 8) (hM : Met l (am_yn y) (am_wds y) (am_rm d (M2.1 - M.1).toNat (M2.2.1 - M.2.1).toNat) (am_Pc D cy Bz ext adV L xs ((st.take (z + 1)).reverse) M) (am_Qc D cy Bz ext L xs r M2) (M2.1 - M.1).toNat (M2.2.1 - M.2.1).toNat (am_A Bz)) (k : (am_At l D cy Bz ext L xs mi p e R s m args below meth c M0 Qf (pc + 3) (ls) (r ++ st.drop (z + 1)) (M2))) : (am_At l D cy Bz ext L xs mi p e R s m args below meth c M0 Qf (pc) (ls) (st) (M)) := by
  intro hok hst h1 h2 lr H locs hl hm hlo
  refine am_W_sz (fun hz => ?_)
  have hbz1 : Bz ≤ H.size := Nat.le_trans (by omega) hlo.1
  have hsz : H.size = Bz + M.1.toNat := by
    have q1 := hm.size hbz1
    have q2 := hok.1
    omega
  obtain ⟨c1, c2, c3, c4⟩ := am_chk_mx hchk
  obtain ⟨g0, g1⟩ := hok.2.2.1 b (by omega)
  have hat := am_ws_at (cy := cy) (Bz := Bz) (ext := ext) (M := M) g0 g1
  rw [am_re_o (by omega), hb0] at hat
  have hbe : st[z]? = some (2, b) := by
    rw [List.getD_eq_getElem?_getD, List.getElem?_eq_getElem (by omega)] at hbz
    rw [List.getElem?_eq_getElem (by omega)]
    exact congrArg some hbz
  have htk : (st.take (z + 1)).reverse = (2, b) :: (st.take z).reverse := by
    rw [List.take_add_one, hbe, List.reverse_append]
    rfl
  have hargs : ((st.take (z + 1)).reverse).map (am_rv Bz ext) = .ref (Bz + b.toNat) :: ((st.take z).reverse).map (am_rv Bz ext) := by
    rw [htk, List.map_cons, am_rv2p g0]
  have hcb : CallB R s args (am_ocn (am_oc mi)) i (am_yn y) (am_by y) (am_mx y) none (am_wds y) (am_rm d (M2.1 - M.1).toNat (M2.2.1 - M.2.1).toNat) (M2.1 - M.1).toNat (M2.2.1 - M.2.1).toNat z := callB_of (ws' := am_gT) z X.2.2.2.2.1 (am_wds_good (am_im_in y him).1 (am_im_in y him).2) (by unfold am_wds; rw [hrt]) rfl rfl (by rw [c1]; exact X.2.2.2.2.1 _ (am_ic_ok c4)) (X.2.2.2.2.1 _ (am_mlA_ok hq)) (hnp ▸ c2) ⟨hfr, by show 8 + (am_mx y + 11) + 100 * d ≤ R.locals; omega⟩
  have hrun := va_runI (H := H) (locs := locs) (cells := (M.1 - M0.1).toNat) (slots := (M.2.1 - M0.2.1).toNat) (below := below) (meth := meth) (e := e) (g := F0 m pc lr (st.map (am_rv Bz ext))) (b := Bz + b.toNat) (As := ((st.take z).reverse).map (am_rv Bz ext)) (rest := (st.drop (z + 1)).map (am_rv Bz ext)) (Ts := am_gT) (nL := am_mx mi) (cc := am_by mi) (own := am_ocn (am_oc mi)) ⟨X.1, X.2.1, X.2.2.1, X.2.2.2.1, X.2.2.2.2.1⟩ hM ⟨hcb, hnm, X.2.2.2.2.1 _ (am_im_ok him)⟩ ⟨am_blind, (fun U hU hW => ⟨by rw [← hargs], by rw [hU]; exact hsz, by rw [hU]; exact hm, va_K.moved hW.alike X.2.2.2.2.2.1, X.2.2.2.2.2.2.1.warm hW, by rw [hU]; exact hEx.warm hW hlo.2.1⟩)⟩ rfl (by rw [List.length_map, List.length_reverse, List.length_take]; omega) hl.2.1 (by
    show st.map (am_rv Bz ext) = _
    have e1 : (((st.take z).reverse).map (am_rv Bz ext)).reverse ++ Value.ref (Bz + b.toNat) :: (st.drop (z + 1)).map (am_rv Bz ext) = (st.take z ++ (2, b) :: st.drop (z + 1)).map (am_rv Bz ext) := by
      rw [← List.map_reverse, List.reverse_reverse, List.map_append, List.map_cons, am_rv2p g0]
    rw [e1]
    refine congrArg (List.map (am_rv Bz ext)) ?_
    have e2 := List.take_append_drop z st
    rw [List.drop_eq_getElem_cons (by omega)] at e2
    rw [List.getElem?_eq_getElem (by omega)] at hbe
    rw [Option.some.inj hbe] at e2
    exact e2.symm) (by
    show 2 * 0 + _ ≤ 8
    rw [am_cw_of Bz ext (fun v hv => hst v (List.mem_of_mem_drop hv))]; omega) hd ⟨by omega, by omega⟩
  refine am_callW hrun hlo (fun H1 locs1 hm1 hlo1 hok1 hsr1 hl1 => ?_)
  have kk := k hok1 (fun v hv => (List.mem_append.mp hv).elim (hsr1 v) (fun h => hst v (List.mem_of_mem_drop h))) (by omega) (by omega) lr H1 locs1 hl hm1 hlo1
  rw [show ((M2.1 - M0.1).toNat) = (M.1 - M0.1).toNat + (M2.1 - M.1).toNat by omega, show ((M2.2.1 - M0.2.1).toNat) = (M.2.1 - M0.2.1).toNat + (M2.2.1 - M.2.1).toNat by omega, List.map_append] at kk
  exact kk
end AmOps
