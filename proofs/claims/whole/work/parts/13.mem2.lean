theorem am_tya (cy : Nat → ClassId) {k : Nat} (h0 : 103 ≤ k) (h1 : k ≤ 105) : (am_tys cy)[k - 100]? = some (cy k, .object (am_ocn (am_kcl k))) := by
  rcases (show k = 103 ∨ k = 104 ∨ k = 105 by omega) with rfl | rfl | rfl <;> rfl
theorem am_kcl9 {k : Nat} : am_kcl k < 9 := by
  unfold am_kcl
  repeat' split
  all_goals omega
theorem am_rr_put {Bz : Nat} {ext : Int → Nat} {M : am_M} {a i v : Int} (h0 : 0 ≤ i) (j : Nat) : am_rr Bz ext (am_gt (am_st M a i v) a j) = va_up (fun (j : Nat) => am_rr Bz ext (am_gt M a j)) i.toNat (am_rr Bz ext v) j := by
  unfold va_up
  rw [am_st_nat h0]
  split <;> rfl
section AmOps
variable {l : Launch} {D : va_G} {cy : Nat → ClassId} {Bz : Nat} {ext : Int → Nat} {L : Int} {xs : Int → Int} {mi : Nat} {p : Program} {e : Env} {R : Room} {s : State} {m : MethodId} {args : Array Value} {below : List Frame} {meth : Method} {c : Code} {M0 : am_M} {Qf : State → Prop} {pc : Nat} {ls st : List am_V} {M : am_M}
theorem am_s_aald (X : am_Cx D cy mi p s m args meth c) {a i : Int} {kd : Nat} (hd : decode (am_by mi) pc = .ok (.aaload, 1)) (hr0 : 103 ≤ kd) (hr1 : kd ≤ 105) (hkd : am_kd M a = kd) (h0 : 0 ≤ i) (hi : i < am_ln M a) (k : (am_At l D cy Bz ext L xs mi p e R s m args below meth c M0 Qf (pc + 1) (ls) ((2, am_gt M a i) :: st) (M))) : (am_At l D cy Bz ext L xs mi p e R s m args below meth c M0 Qf (pc) (ls) ((0, i) :: (2, a) :: st) (M)) := by
  intro hok hst h1 h2 lr H locs hl hm hlo
  obtain ⟨g0, g1⟩ := hok.2.2.1 a (by omega)
  have hat := am_ws_at (cy := cy) (Bz := Bz) (ext := ext) (M := M) g0 g1
  have hz := hok.2.2.2.2.2.1 a (by omega) (by omega)
  have hi32 : am_i32 i := hst.hd
  have kk := k hok (am_SR.cons (v := (2, am_gt M a i)) trivial hst.tl.tl) h1 h2 lr H locs hl hm hlo
  rw [am_re_r (by omega), hkd] at hat
  rw [List.map_cons, List.map_cons, am_rv2p g0]
  refine va_aldq X.1 X.2.1 X.2.2.2.2.2.1 hm a.toNat (kd - 100) hat (am_tya cy hr0 hr1) (am_vin h0 hi hz.2) hd ?_
  rw [am_cl32 hi32, Int.toNat_of_nonneg h0]
  exact kk

theorem am_s_aast (X : am_Cx D cy mi p s m args meth c) {a i v : Int} {kd : Nat} (hd : decode (am_by mi) pc = .ok (.aastore, 1)) (hr0 : 103 ≤ kd) (hr1 : kd ≤ 105) (hkd : am_kd M a = kd) (h0 : 0 ≤ i) (hi : i < am_ln M a) (hv : v = -1 ∨ am_kd M v = am_kcl kd) (k : (am_At l D cy Bz ext L xs mi p e R s m args below meth c M0 Qf (pc + 1) (ls) (st) (am_st M a i v))) : (am_At l D cy Bz ext L xs mi p e R s m args below meth c M0 Qf (pc) (ls) ((2, v) :: (0, i) :: (2, a) :: st) (M)) := by
  intro hok hst h1 h2 lr H locs hl hm hlo
  obtain ⟨g0, g1⟩ := hok.2.2.1 a (by omega)
  have hat := am_ws_at (cy := cy) (Bz := Bz) (ext := ext) (M := M) g0 g1
  have hz := hok.2.2.2.2.2.1 a (by omega) (by omega)
  have hi32 : am_i32 i := hst.tl.hd
  have hsk : am_okv (am_sk (am_kd M a) i) v := by
    rw [hkd]
    rcases (show kd = 103 ∨ kd = 104 ∨ kd = 105 by omega) with rfl | rfl | rfl <;> trivial
  have hok2 : am_ok L xs (am_st M a i v) := hok.st (by omega) hsk
  have hset : am_re cy Bz ext (am_st M a i v) a = .inl (cy kd, (am_ln M a).toNat, .inr (.inr (.inr (.inr (va_up (fun (j : Nat) => am_rr Bz ext (am_gt M a j)) i.toNat (am_rr Bz ext v)))))) := by
    rw [am_re_r (by rw [am_kd_st]; omega), am_kd_st, hkd, am_ln_st]
    refine congrArg (fun z => (Sum.inl (cy kd, (am_ln M a).toNat, Sum.inr (Sum.inr (Sum.inr (Sum.inr z)))) : va_E)) (funext fun j => ?_)
    exact am_rr_put h0 j
  rw [am_re_r (by omega), hkd] at hat
  rw [List.map_cons, List.map_cons, List.map_cons, am_rv2p g0]
  have fin : ∀ (H1 : Heap) (locs1 : List Loc), va_P D am_cls ((am_ws cy Bz ext M).set a.toNat (Bz + a.toNat, .inl (cy kd, (am_ln M a).toNat, .inr (.inr (.inr (.inr (va_up (fun (j : Nat) => am_rr Bz ext (am_gt M a j)) i.toNat (am_rr Bz ext v)))))))) H1 → va_S (am_A Bz) s.heap H1 locs1 → W p l e R s m args below meth c H1 locs1 (M.1 - M0.1).toNat (M.2.1 - M0.2.1).toNat Qf (F0 m (pc + 1) lr (st.map (am_rv Bz ext))) := by
    intro H1 locs1 hP1 hS1
    rw [am_ws_set (M := M) (M' := am_st M a i v) g0 rfl (fun b hb => am_re_st hb) hset] at hP1
    exact k hok2 hst.tl.tl.tl h1 h2 lr H1 locs1 hl hP1 hS1
  rcases hv with rfl | hv
  · rw [show am_rr Bz ext (-1) = none from rfl] at fin
    refine va_astqN X.1 X.2.1 X.2.2.2.2.2.1 hm (am_ws_D cy Bz ext M) hlo a.toNat (kd - 100) hat (am_tya cy hr0 hr1) (am_vin h0 hi hz.2) hd (fun H1 locs1 hP1 _ hS1 => fin H1 locs1 ?_ hS1)
    rw [am_cl32 hi32] at hP1
    exact hP1
  · have hk9 := am_kcl9 (k := kd)
    obtain ⟨v0, v1⟩ := hok.2.2.1 v (by omega)
    have hatv := am_ws_at (cy := cy) (Bz := Bz) (ext := ext) (M := M) v0 v1
    rw [am_re_o (by omega), hv] at hatv
    have hrr : am_rr Bz ext v = some (Bz + v.toNat) := by unfold am_rr am_ad; rw [if_neg (by omega), if_pos v0]
    rw [hrr] at fin
    rw [am_rv2p v0]
    refine va_astq (r := (am_ocn (am_kcl kd), am_Ts (am_kcl kd), am_nf (am_kcl kd))) X.1 X.2.1 X.2.2.2.2.2.1 hm (am_ws_D cy Bz ext M) hlo a.toNat (kd - 100) v.toNat (am_kcl kd) hat (am_tya cy hr0 hr1) hatv (am_clat hk9) (am_vin h0 hi hz.2) hd (fun H1 locs1 hP1 _ hS1 => fin H1 locs1 ?_ hS1)
    rw [am_cl32 hi32] at hP1
    exact hP1

theorem am_s_alen (X : am_Cx D cy mi p s m args meth c) {a : Int} {kd : Nat} (hd : decode (am_by mi) pc = .ok (.arraylength, 1)) (hr : kd = 100 ∨ kd = 101) (hkd : am_kd M a = kd) (k : (am_At l D cy Bz ext L xs mi p e R s m args below meth c M0 Qf (pc + 1) (ls) ((0, am_ln M a) :: st) (M))) : (am_At l D cy Bz ext L xs mi p e R s m args below meth c M0 Qf (pc) (ls) ((2, a) :: st) (M)) := by
  intro hok hst h1 h2 lr H locs hl hm hlo
  obtain ⟨g0, g1⟩ := hok.2.2.1 a (by omega)
  have hat := am_ws_at (cy := cy) (Bz := Bz) (ext := ext) (M := M) g0 g1
  have hz := hok.2.2.2.2.2.1 a (by omega) (by omega)
  have kk := k hok (am_SR.cons (v := (0, am_ln M a)) (by show am_i32 (am_ln M a); unfold am_i32; omega) hst.tl) h1 h2 lr H locs hl hm hlo
  have hn : Int32.ofNat (am_ln M a).toNat = Int32.ofInt (am_ln M a) := by rw [← Int32.ofInt_eq_ofNat, Int.toNat_of_nonneg hz.1]
  rw [List.map_cons, am_rv2p g0]
  rcases hr with rfl | rfl
  · rw [am_re_i (Or.inl hkd), hkd] at hat
    exact va_alen X.1 X.2.1 X.2.2.2.2.2.1 hm a.toNat 0 hat rfl hn hd kk
  · rw [am_re_l hkd] at hat
    exact va_alen X.1 X.2.1 X.2.2.2.2.2.1 hm a.toNat 1 hat rfl hn hd kk

theorem am_s_new (X : am_Cx D cy mi p s m args meth c) {cl n i : Nat} (hd : decode (am_by mi) pc = .ok (.new i, 3)) (hq : (am_oc mi, i, cl) ∈ am_kc) (hc : cl < 9) (hn : n = am_nf cl) (hr1 : M.1 + 1 - M0.1 ≤ (R.cells : Int)) (hr2 : M.2.1 + n - M0.2.1 ≤ (R.slots : Int)) (hs0 : s.heap.size = Bz + M0.1.toNat) (hz0 : 0 ≤ M0.1) (k : (am_At l D cy Bz ext L xs mi p e R s m args below meth c M0 Qf (pc + 3) (ls) ((2, M.1) :: st) (am_nw M cl (n : Int)))) : (am_At l D cy Bz ext L xs mi p e R s m args below meth c M0 Qf (pc) (ls) (st) (M)) := by
  intro hok hst h1 h2 lr H locs hl hm hlo
  subst hn
  have hnc : (cl, am_nf cl) ∈ am_nc := by
    match cl, hc with
    | 0, _ => decide
    | 1, _ => decide
    | 2, _ => decide
    | 3, _ => decide
    | 4, _ => decide
    | 5, _ => decide
    | 6, _ => decide
    | 7, _ => decide
    | 8, _ => decide
  have hic : cl ∈ am_ic := by
    match cl, hc with
    | 0, _ => decide
    | 1, _ => decide
    | 2, _ => decide
    | 3, _ => decide
    | 4, _ => decide
    | 5, _ => decide
    | 6, _ => decide
    | 7, _ => decide
    | 8, _ => decide
  have hre : am_re cy Bz ext (am_nw M cl (am_nf cl : Int)) M.1 = .inr (cl, (List.range (am_nf cl)).map (fun (j : Nat) => am_rv Bz ext (am_tg (am_sk cl j), am_df cl j))) := by
    have e1 : am_kd (am_nw M cl (am_nf cl : Int)) M.1 = cl := by rw [am_kd_nw, if_pos rfl]
    have e2 : am_ln (am_nw M cl (am_nf cl : Int)) M.1 = (am_nf cl : Int) := by rw [am_ln_nw, if_pos rfl]
    have e3 : ∀ j : Int, am_gt (am_nw M cl (am_nf cl : Int)) M.1 j = am_df cl j := fun j => by rw [am_gt_nw, if_pos rfl]
    rw [am_re_o (by omega), e1, e2]
    simp only [e3, Int.toNat_natCast]
  refine va_new (c0 := c) (fs := (List.range (am_nf cl)).map (fun (j : Nat) => am_rv Bz ext (am_tg (am_sk cl j), am_df cl j))) X.1 X.2.1 X.2.2.2.2.1 (am_uu hc) (am_Fs cl) (am_ftc hc) X.2.2.2.1 (X.2.2.2.2.1 _ (am_kc_ok hq)) (X.2.2.2.2.1 _ (am_nc_ok hnc)) (X.2.2.2.2.1 _ (am_ic_ok hic)) X.2.2.2.2.2.1 hm (am_ws_D cy Bz ext M) hlo (fun q hq => by show Bz ≤ q; omega) (am_clat hc) ?_ (by omega) (by omega) hd (fun q H1 hP1 hD1 hS1 => am_W_sz (fun hz => ?_))
  · intro j hj
    unfold vp_V
    rw [List.getD_eq_getElem?_getD, List.getElem?_map, List.getElem?_range hj]
    show _ = am_rv Bz ext (am_tg (am_sk cl j), am_df cl j)
    have ht := am_tysk cl hc j hj
    unfold am_df
    rw [← ht]
    cases hf : am_Fs cl j with
    | int => rfl
    | long => rfl
    | boolean => rfl
    | object n => rfl
    | array t => rfl
    | byte => rw [hf] at ht; exfalso; rcases am_sk4 cl j with e | e | e | e <;> rw [e] at ht <;> cases ht
    | char => rw [hf] at ht; exfalso; rcases am_sk4 cl j with e | e | e | e <;> rw [e] at ht <;> cases ht
    | short => rw [hf] at ht; exfalso; rcases am_sk4 cl j with e | e | e | e <;> rw [e] at ht <;> cases ht
    | float => rw [hf] at ht; exfalso; rcases am_sk4 cl j with e | e | e | e <;> rw [e] at ht <;> cases ht
    | double => rw [hf] at ht; exfalso; rcases am_sk4 cl j with e | e | e | e <;> rw [e] at ht <;> cases ht
  have hq := am_new_at hok.1 hP1 hD1 (by have hz1 : (0 : Int) ≤ M.1 := hok.1; omega)
  subst hq
  rw [am_ws_push (M := M) (M' := am_nw M cl (am_nf cl : Int)) hok.1 rfl (fun b hb => am_re_nw hb) hre] at hP1
  have kk := k (hok.nw (Or.inl ⟨hc, rfl⟩)) (am_SR.cons (v := (2, M.1)) trivial hst) (by show M0.1 ≤ M.1 + 1; omega) (by show M0.2.1 ≤ M.2.1 + (am_nf cl : Int); omega) lr H1 locs hl hP1 hS1
  rw [show ((am_nw M cl (am_nf cl : Int)).1 - M0.1).toNat = (M.1 - M0.1).toNat + 1 by show (M.1 + 1 - M0.1).toNat = _; omega, show ((am_nw M cl (am_nf cl : Int)).2.1 - M0.2.1).toNat = (M.2.1 - M0.2.1).toNat + am_nf cl by show (M.2.1 + (am_nf cl : Int) - M0.2.1).toNat = _; omega, List.map_cons, am_rv2p hok.1] at kk
  exact kk

theorem am_s_newi (X : am_Cx D cy mi p s m args meth c) {n : Int} (hd : decode (am_by mi) pc = .ok (.newarray .int, 2)) (h0 : 0 ≤ n) (hn : n ≤ 65536) (hr1 : M.1 + 1 - M0.1 ≤ (R.cells : Int)) (hr2 : M.2.1 + n - M0.2.1 ≤ (R.slots : Int)) (hs0 : s.heap.size = Bz + M0.1.toNat) (hz0 : 0 ≤ M0.1) (k : (am_At l D cy Bz ext L xs mi p e R s m args below meth c M0 Qf (pc + 2) (ls) ((2, M.1) :: st) (am_nw M 100 n))) : (am_At l D cy Bz ext L xs mi p e R s m args below meth c M0 Qf (pc) (ls) ((0, n) :: st) (M)) := by
  intro hok hst h1 h2 lr H locs hl hm hlo
  have hn32 : am_i32 n := hst.hd
  have hw : Cond.arrayClass .int ∈ am_gT := am_gT_of (i := 179) (by decide +kernel) (by decide +kernel)
  have harr : (Cond.arrayClass (newarray.typeOf .int)).before args s = true := X.2.2.2.2.1 _ hw
  refine va_newa (ty := .int) (a0 := ((n.toNat, Sum.inl (fun _ => 0)) : vp_A)) X.1 X.2.1 harr rfl X.2.2.2.2.2.1 hm (am_ws_D cy Bz ext M) hlo (fun q hq => by show Bz ≤ q; omega) (fun cA => rfl) (fun h => by rw [Int32.lt_iff_toInt_lt, am_toInt hn32] at h; have : (0 : Int32).toInt = 0 := rfl; omega) (am_cl32 hn32) (by show n.toNat * 4 ≤ 536870912; omega) (by omega) (by omega) hd (fun q cA H1 hK1 hP1 hD1 hS1 => am_W_sz (fun hz => ?_))
  have hcy : cA = cy 100 := by
    have k1 := (hK1.2 (am_tys cy).length (cA, .int) (by rw [List.getElem?_append_right (Nat.le_refl _), Nat.sub_self]; rfl)).2
    have k2 := (X.2.2.2.2.2.1.2 0 (cy 100, .int) rfl).2
    exact Option.some.inj (k1.symm.trans k2)
  subst hcy
  have hre : am_re cy Bz ext (am_nw M 100 n) M.1 = .inl (cy 100, ((n.toNat, Sum.inl (fun _ => 0)) : vp_A)) := by
    have e1 : am_kd (am_nw M 100 n) M.1 = 100 := by rw [am_kd_nw, if_pos rfl]
    have e2 : am_ln (am_nw M 100 n) M.1 = n := by rw [am_ln_nw, if_pos rfl]
    have e3 : ∀ j : Int, am_gt (am_nw M 100 n) M.1 j = am_df 100 j := fun j => by rw [am_gt_nw, if_pos rfl]
    rw [am_re_i (Or.inl e1), e1, e2]
    simp only [e3]
    rfl
  have hq := am_new_at hok.1 hP1 hD1 (by have hz1 : (0 : Int) ≤ M.1 := hok.1; omega)
  subst hq
  rw [am_ws_push (M := M) (M' := am_nw M 100 n) hok.1 rfl (fun b hb => am_re_nw hb) hre] at hP1
  have kk := k (hok.nw (Or.inr ⟨by omega, by omega, h0, hn⟩)) (am_SR.cons (v := (2, M.1)) trivial hst.tl) (by show M0.1 ≤ M.1 + 1; omega) (by show M0.2.1 ≤ M.2.1 + n; omega) lr H1 locs hl hP1 hS1
  rw [show ((am_nw M 100 n).1 - M0.1).toNat = (M.1 - M0.1).toNat + 1 by show (M.1 + 1 - M0.1).toNat = _; omega, show ((am_nw M 100 n).2.1 - M0.2.1).toNat = (M.2.1 - M0.2.1).toNat + n.toNat by show (M.2.1 + n - M0.2.1).toNat = _; omega, List.map_cons, am_rv2p hok.1] at kk
  exact kk

theorem am_s_newl (X : am_Cx D cy mi p s m args meth c) {n : Int} (hd : decode (am_by mi) pc = .ok (.newarray .long, 2)) (h0 : 0 ≤ n) (hn : n ≤ 65536) (hr1 : M.1 + 1 - M0.1 ≤ (R.cells : Int)) (hr2 : M.2.1 + n - M0.2.1 ≤ (R.slots : Int)) (hs0 : s.heap.size = Bz + M0.1.toNat) (hz0 : 0 ≤ M0.1) (k : (am_At l D cy Bz ext L xs mi p e R s m args below meth c M0 Qf (pc + 2) (ls) ((2, M.1) :: st) (am_nw M 101 n))) : (am_At l D cy Bz ext L xs mi p e R s m args below meth c M0 Qf (pc) (ls) ((0, n) :: st) (M)) := by
  intro hok hst h1 h2 lr H locs hl hm hlo
  have hn32 : am_i32 n := hst.hd
  have hw : Cond.arrayClass .long ∈ am_gT := am_gT_of (i := 462) (by decide +kernel) (by decide +kernel)
  have harr : (Cond.arrayClass (newarray.typeOf .long)).before args s = true := X.2.2.2.2.1 _ hw
  refine va_newa (ty := .long) (a0 := ((n.toNat, Sum.inr (Sum.inl (fun _ => 0))) : vp_A)) X.1 X.2.1 harr rfl X.2.2.2.2.2.1 hm (am_ws_D cy Bz ext M) hlo (fun q hq => by show Bz ≤ q; omega) (fun cA => rfl) (fun h => by rw [Int32.lt_iff_toInt_lt, am_toInt hn32] at h; have : (0 : Int32).toInt = 0 := rfl; omega) (am_cl32 hn32) (by show n.toNat * 8 ≤ 536870912; omega) (by omega) (by omega) hd (fun q cA H1 hK1 hP1 hD1 hS1 => am_W_sz (fun hz => ?_))
  have hcy : cA = cy 101 := by
    have k1 := (hK1.2 (am_tys cy).length (cA, .long) (by rw [List.getElem?_append_right (Nat.le_refl _), Nat.sub_self]; rfl)).2
    have k2 := (X.2.2.2.2.2.1.2 1 (cy 101, .long) rfl).2
    exact Option.some.inj (k1.symm.trans k2)
  subst hcy
  have hre : am_re cy Bz ext (am_nw M 101 n) M.1 = .inl (cy 101, ((n.toNat, Sum.inr (Sum.inl (fun _ => 0))) : vp_A)) := by
    have e1 : am_kd (am_nw M 101 n) M.1 = 101 := by rw [am_kd_nw, if_pos rfl]
    have e2 : am_ln (am_nw M 101 n) M.1 = n := by rw [am_ln_nw, if_pos rfl]
    have e3 : ∀ j : Int, am_gt (am_nw M 101 n) M.1 j = am_df 101 j := fun j => by rw [am_gt_nw, if_pos rfl]
    rw [am_re_l e1, e2]
    simp only [e3]
    rfl
  have hq := am_new_at hok.1 hP1 hD1 (by have hz1 : (0 : Int) ≤ M.1 := hok.1; omega)
  subst hq
  rw [am_ws_push (M := M) (M' := am_nw M 101 n) hok.1 rfl (fun b hb => am_re_nw hb) hre] at hP1
  have kk := k (hok.nw (Or.inr ⟨by omega, by omega, h0, hn⟩)) (am_SR.cons (v := (2, M.1)) trivial hst.tl) (by show M0.1 ≤ M.1 + 1; omega) (by show M0.2.1 ≤ M.2.1 + n; omega) lr H1 locs hl hP1 hS1
  rw [show ((am_nw M 101 n).1 - M0.1).toNat = (M.1 - M0.1).toNat + 1 by show (M.1 + 1 - M0.1).toNat = _; omega, show ((am_nw M 101 n).2.1 - M0.2.1).toNat = (M.2.1 - M0.2.1).toNat + n.toNat by show (M.2.1 + n - M0.2.1).toNat = _; omega, List.map_cons, am_rv2p hok.1] at kk
  exact kk

theorem am_s_newz (X : am_Cx D cy mi p s m args meth c) {n : Int} (hd : decode (am_by mi) pc = .ok (.newarray .boolean, 2)) (h0 : 0 ≤ n) (hn : n ≤ 65536) (hr1 : M.1 + 1 - M0.1 ≤ (R.cells : Int)) (hr2 : M.2.1 + n - M0.2.1 ≤ (R.slots : Int)) (hs0 : s.heap.size = Bz + M0.1.toNat) (hz0 : 0 ≤ M0.1) (k : (am_At l D cy Bz ext L xs mi p e R s m args below meth c M0 Qf (pc + 2) (ls) ((2, M.1) :: st) (am_nw M 102 n))) : (am_At l D cy Bz ext L xs mi p e R s m args below meth c M0 Qf (pc) (ls) ((0, n) :: st) (M)) := by
  intro hok hst h1 h2 lr H locs hl hm hlo
  have hn32 : am_i32 n := hst.hd
  have hw : Cond.arrayClass .boolean ∈ am_gT := am_gT_of (i := 273) (by decide +kernel) (by decide +kernel)
  have harr : (Cond.arrayClass (newarray.typeOf .boolean)).before args s = true := X.2.2.2.2.1 _ hw
  refine va_newa (ty := .boolean) (a0 := ((n.toNat, Sum.inl (fun _ => 0)) : vp_A)) X.1 X.2.1 harr rfl X.2.2.2.2.2.1 hm (am_ws_D cy Bz ext M) hlo (fun q hq => by show Bz ≤ q; omega) (fun cA => rfl) (fun h => by rw [Int32.lt_iff_toInt_lt, am_toInt hn32] at h; have : (0 : Int32).toInt = 0 := rfl; omega) (am_cl32 hn32) (by show n.toNat * 1 ≤ 536870912; omega) (by omega) (by omega) hd (fun q cA H1 hK1 hP1 hD1 hS1 => am_W_sz (fun hz => ?_))
  have hcy : cA = cy 102 := by
    have k1 := (hK1.2 (am_tys cy).length (cA, .boolean) (by rw [List.getElem?_append_right (Nat.le_refl _), Nat.sub_self]; rfl)).2
    have k2 := (X.2.2.2.2.2.1.2 2 (cy 102, .boolean) rfl).2
    exact Option.some.inj (k1.symm.trans k2)
  subst hcy
  have hre : am_re cy Bz ext (am_nw M 102 n) M.1 = .inl (cy 102, ((n.toNat, Sum.inl (fun _ => 0)) : vp_A)) := by
    have e1 : am_kd (am_nw M 102 n) M.1 = 102 := by rw [am_kd_nw, if_pos rfl]
    have e2 : am_ln (am_nw M 102 n) M.1 = n := by rw [am_ln_nw, if_pos rfl]
    have e3 : ∀ j : Int, am_gt (am_nw M 102 n) M.1 j = am_df 102 j := fun j => by rw [am_gt_nw, if_pos rfl]
    rw [am_re_i (Or.inr e1), e1, e2]
    simp only [e3]
    rfl
  have hq := am_new_at hok.1 hP1 hD1 (by have hz1 : (0 : Int) ≤ M.1 := hok.1; omega)
  subst hq
  rw [am_ws_push (M := M) (M' := am_nw M 102 n) hok.1 rfl (fun b hb => am_re_nw hb) hre] at hP1
  have kk := k (hok.nw (Or.inr ⟨by omega, by omega, h0, hn⟩)) (am_SR.cons (v := (2, M.1)) trivial hst.tl) (by show M0.1 ≤ M.1 + 1; omega) (by show M0.2.1 ≤ M.2.1 + n; omega) lr H1 locs hl hP1 hS1
  rw [show ((am_nw M 102 n).1 - M0.1).toNat = (M.1 - M0.1).toNat + 1 by show (M.1 + 1 - M0.1).toNat = _; omega, show ((am_nw M 102 n).2.1 - M0.2.1).toNat = (M.2.1 - M0.2.1).toNat + n.toNat by show (M.2.1 + n - M0.2.1).toNat = _; omega, List.map_cons, am_rv2p hok.1] at kk
  exact kk

theorem am_s_newr (X : am_Cx D cy mi p s m args meth c) {n : Int} {kd i : Nat} (hd : decode (am_by mi) pc = .ok (.anewarray i, 3)) (hq : (am_oc mi, i, am_kcl kd) ∈ am_kc) (hk0 : 103 ≤ kd) (hk1 : kd ≤ 105) (h0 : 0 ≤ n) (hn : n ≤ 65536) (hr1 : M.1 + 1 - M0.1 ≤ (R.cells : Int)) (hr2 : M.2.1 + n - M0.2.1 ≤ (R.slots : Int)) (hs0 : s.heap.size = Bz + M0.1.toNat) (hz0 : 0 ≤ M0.1) (k : (am_At l D cy Bz ext L xs mi p e R s m args below meth c M0 Qf (pc + 3) (ls) ((2, M.1) :: st) (am_nw M kd n))) : (am_At l D cy Bz ext L xs mi p e R s m args below meth c M0 Qf (pc) (ls) ((0, n) :: st) (M)) := by
  intro hok hst h1 h2 lr H locs hl hm hlo
  have hn32 : am_i32 n := hst.hd
  refine va_newq (C := am_ocn (am_kcl kd)) X.1 X.2.1 X.2.2.2.1 (X.2.2.2.2.1 _ (am_kc_ok hq)) (X.2.2.2.2.2.2.1.2.1 kd hk0 hk1) X.2.2.2.2.2.1 hm (am_ws_D cy Bz ext M) hlo (fun q hq => by show Bz ≤ q; omega) (fun h => by rw [Int32.lt_iff_toInt_lt, am_toInt hn32] at h; have : (0 : Int32).toInt = 0 := rfl; omega) (am_cl32 hn32) (by omega) (by omega) (by omega) hd (fun q cA H1 hK1 hP1 hD1 hS1 => am_W_sz (fun hz => ?_))
  have hcy : cA = cy kd := by
    have k1 := (hK1.2 (am_tys cy).length (cA, .object (am_ocn (am_kcl kd))) (by rw [List.getElem?_append_right (Nat.le_refl _), Nat.sub_self]; rfl)).2
    have k2 := (X.2.2.2.2.2.1.2 (kd - 100) (cy kd, .object (am_ocn (am_kcl kd))) (am_tya cy hk0 hk1)).2
    obtain ⟨_, _, -, -, -, k1⟩ := k1
    obtain ⟨_, _, -, -, -, k2⟩ := k2
    exact Option.some.inj (k1.symm.trans k2)
  subst hcy
  have hre : am_re cy Bz ext (am_nw M kd n) M.1 = .inl (cy kd, n.toNat, .inr (.inr (.inr (.inr (fun _ => none))))) := by
    have e1 : am_kd (am_nw M kd n) M.1 = kd := by rw [am_kd_nw, if_pos rfl]
    have e2 : am_ln (am_nw M kd n) M.1 = n := by rw [am_ln_nw, if_pos rfl]
    have e3 : ∀ j : Int, am_gt (am_nw M kd n) M.1 j = am_df kd j := fun j => by rw [am_gt_nw, if_pos rfl]
    rw [am_re_r (by omega), e1, e2]
    simp only [e3]
    rcases (show kd = 103 ∨ kd = 104 ∨ kd = 105 by omega) with rfl | rfl | rfl <;> rfl
  have hq := am_new_at hok.1 hP1 hD1 (by have hz1 : (0 : Int) ≤ M.1 := hok.1; omega)
  subst hq
  rw [am_ws_push (M := M) (M' := am_nw M kd n) hok.1 rfl (fun b hb => am_re_nw hb) hre] at hP1
  have kk := k (hok.nw (Or.inr ⟨by omega, by omega, h0, hn⟩)) (am_SR.cons (v := (2, M.1)) trivial hst.tl) (by show M0.1 ≤ M.1 + 1; omega) (by show M0.2.1 ≤ M.2.1 + n; omega) lr H1 locs hl hP1 hS1
  rw [show ((am_nw M kd n).1 - M0.1).toNat = (M.1 - M0.1).toNat + 1 by show (M.1 + 1 - M0.1).toNat = _; omega, show ((am_nw M kd n).2.1 - M0.2.1).toNat = (M.2.1 - M0.2.1).toNat + n.toNat by show (M.2.1 + n - M0.2.1).toNat = _; omega, List.map_cons, am_rv2p hok.1] at kk
  exact kk

theorem am_s_sld (X : am_Cx D cy mi p s m args meth c) {i : Int} (hd : decode (am_by mi) pc = .ok (.iaload, 1)) (hX : va_X (ext (-2)) L.toNat (fun j => Int32.ofInt (xs j)) s s.heap) (hXb : ext (-2) < Bz) (hbz : Bz ≤ s.heap.size) (hL : 0 ≤ L ∧ L ≤ 3072) (hxs : ∀ j, am_i32 (xs j)) (h0 : 0 ≤ i) (hi : i < am_ln M (-2)) (k : (am_At l D cy Bz ext L xs mi p e R s m args below meth c M0 Qf (pc + 1) (ls) ((0, am_gt M (-2) i) :: st) (M))) : (am_At l D cy Bz ext L xs mi p e R s m args below meth c M0 Qf (pc) (ls) ((0, i) :: (2, -2) :: st) (M)) := by
  intro hok hst h1 h2 lr H locs hl hm hlo
  have e1 := hok.2.2.2.2.2.2.2.2.1
  have e2 := hok.2.2.2.2.2.2.2.2.2.1
  have hi32 : am_i32 i := hst.hd
  have kk := k hok (am_SR.cons (v := (0, am_gt M (-2) i)) (by show am_i32 _; rw [e2]; exact hxs i) hst.tl.tl) h1 h2 lr H locs hl hm hlo
  rw [List.map_cons, List.map_cons, am_rv2n (by omega)]
  refine va_sld X.1 X.2.1 hX (by omega) (by show ¬ Bz ≤ _; omega) hlo (am_vin h0 (e1 ▸ hi) (by omega)) hd ?_
  rw [am_cl32 hi32, Int.toNat_of_nonneg h0, ← e2 i]
  exact kk

theorem am_s_slen (X : am_Cx D cy mi p s m args meth c) (hd : decode (am_by mi) pc = .ok (.arraylength, 1)) (hX : va_X (ext (-2)) L.toNat (fun j => Int32.ofInt (xs j)) s s.heap) (hXb : ext (-2) < Bz) (hbz : Bz ≤ s.heap.size) (hL : 0 ≤ L ∧ L ≤ 3072) (k : (am_At l D cy Bz ext L xs mi p e R s m args below meth c M0 Qf (pc + 1) (ls) ((0, am_ln M (-2)) :: st) (M))) : (am_At l D cy Bz ext L xs mi p e R s m args below meth c M0 Qf (pc) (ls) ((2, -2) :: st) (M)) := by
  intro hok hst h1 h2 lr H locs hl hm hlo
  have e1 := hok.2.2.2.2.2.2.2.2.1
  have kk := k hok (am_SR.cons (v := (0, am_ln M (-2))) (by show am_i32 _; rw [e1]; unfold am_i32; omega) hst.tl) h1 h2 lr H locs hl hm hlo
  rw [List.map_cons, am_rv2n (by omega)]
  refine va_slen X.1 X.2.1 hX (by omega) (by show ¬ Bz ≤ _; omega) hlo hd ?_
  rw [List.map_cons, am_rv0, e1] at kk
  have hn : Int32.ofNat L.toNat = Int32.ofInt L := by rw [← Int32.ofInt_eq_ofNat, Int.toNat_of_nonneg hL.1]
  rw [← hn] at kk
  exact kk
end AmOps
