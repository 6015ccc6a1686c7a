/-! THE CLASSES, by their numbers -/
theorem am_clat : ∀ {cl : Nat}, cl < 9 → am_cls[cl]? = some (am_ocn cl, am_Ts cl, am_nf cl)
  | 0, _ => rfl | 1, _ => rfl | 2, _ => rfl | 3, _ => rfl | 4, _ => rfl | 5, _ => rfl | 6, _ => rfl | 7, _ => rfl | 8, _ => rfl
  | n + 9, h => absurd h (by omega)
theorem am_uu : ∀ {cl : Nat}, cl < 9 → ∀ w ∈ u_ws (am_ocn cl) (am_Ts cl) (am_nf cl), w ∈ am_gT
  | 0, _ => am_u0 | 1, _ => am_u1 | 2, _ => am_u2 | 3, _ => am_u3 | 4, _ => am_u4 | 5, _ => am_u5 | 6, _ => am_u6 | 7, _ => am_u7 | 8, _ => am_u8
  | n + 9, h => absurd h (by omega)
theorem am_nmc : ∀ {cl : Nat}, cl < 9 → ∀ a, a < am_nf cl → ∀ b, b < am_nf cl → a ≠ b → (am_Ts cl a).2.1 ≠ (am_Ts cl b).2.1
  | 0, _ => am_nm0 | 1, _ => am_nm1 | 2, _ => am_nm2 | 3, _ => am_nm3 | 4, _ => am_nm4 | 5, _ => am_nm5 | 6, _ => am_nm6 | 7, _ => am_nm7 | 8, _ => am_nm8
  | n + 9, h => absurd h (by omega)
theorem am_ftc : ∀ {cl : Nat}, cl < 9 → ∀ k, k < am_nf cl → parseFieldDescriptor (am_Ts cl k).2.2.1 = some (am_Fs cl k)
  | 0, _ => am_ft0 | 1, _ => am_ft1 | 2, _ => am_ft2 | 3, _ => am_ft3 | 4, _ => am_ft4 | 5, _ => am_ft5 | 6, _ => am_ft6 | 7, _ => am_ft7 | 8, _ => am_ft8
  | n + 9, h => absurd h (by omega)
set_option maxRecDepth 20000 in
theorem am_Tc : ∀ cl, cl < 9 → ∀ k, k < am_nf cl → (am_Ts cl k).1 = am_ocn cl := by decide +kernel
def am_tyk (t : FieldType) : Nat := match t with
  | .int => 0
  | .long => 1
  | .boolean => 3
  | .object _ => 2
  | .array _ => 2
  | _ => 9
set_option maxRecDepth 20000 in
theorem am_tysk : ∀ cl, cl < 9 → ∀ k, k < am_nf cl → am_tyk (am_Fs cl k) = am_sk cl (k : Int) := by decide +kernel
theorem am_sk4 (k : Nat) (j : Int) : am_sk k j = 0 ∨ am_sk k j = 1 ∨ am_sk k j = 2 ∨ am_sk k j = 3 := by
  unfold am_sk
  repeat' split
  all_goals simp
theorem am_okv_vk {k : Nat} {j v : Int} (h : am_okv (am_sk k j) v) : am_vk (am_tg (am_sk k j), v) := by
  rcases am_sk4 k j with e | e | e | e <;> rw [e] at h ⊢
  · exact h
  · exact h
  · trivial
  · show am_i32 v
    unfold am_i32
    rcases h with rfl | rfl <;> omega
theorem am_fit (Bz : Nat) (ext : Int → Nat) {cl k : Nat} (hc : cl < 9) (hk : k < am_nf cl) {x : Int} (h : am_okv (am_sk cl k) x) : narrow (am_Fs cl k) (am_rv Bz ext (am_tg (am_sk cl k), x)) = am_rv Bz ext (am_tg (am_sk cl k), x) ∧ fits (am_Fs cl k) (am_rv Bz ext (am_tg (am_sk cl k), x)) = true := by
  have ht := am_tysk cl hc k hk
  rw [← ht] at h ⊢
  cases hf : am_Fs cl k with
  | int => exact ⟨rfl, rfl⟩
  | long => exact ⟨rfl, rfl⟩
  | boolean =>
    rw [hf] at h
    rcases h with rfl | rfl
    · exact ⟨rfl, rfl⟩
    · exact ⟨rfl, rfl⟩
  | object n =>
    show narrow (.object n) (va_rf (am_rr Bz ext x)) = va_rf (am_rr Bz ext x) ∧ fits (.object n) (va_rf (am_rr Bz ext x)) = true
    cases am_rr Bz ext x <;> exact ⟨rfl, rfl⟩
  | array t =>
    show narrow (.array t) (va_rf (am_rr Bz ext x)) = va_rf (am_rr Bz ext x) ∧ fits (.array t) (va_rf (am_rr Bz ext x)) = true
    cases am_rr Bz ext x <;> exact ⟨rfl, rfl⟩
  | byte => rw [hf] at ht; exfalso; rcases am_sk4 cl k with e | e | e | e <;> rw [e] at ht <;> cases ht
  | char => rw [hf] at ht; exfalso; rcases am_sk4 cl k with e | e | e | e <;> rw [e] at ht <;> cases ht
  | short => rw [hf] at ht; exfalso; rcases am_sk4 cl k with e | e | e | e <;> rw [e] at ht <;> cases ht
  | float => rw [hf] at ht; exfalso; rcases am_sk4 cl k with e | e | e | e <;> rw [e] at ht <;> cases ht
  | double => rw [hf] at ht; exfalso; rcases am_sk4 cl k with e | e | e | e <;> rw [e] at ht <;> cases ht
/-! THE CELLS, by their kinds -/
theorem am_re_o {cy : Nat → ClassId} {Bz : Nat} {ext : Int → Nat} {M : am_M} {a : Int} (h : am_kd M a < 100) : am_re cy Bz ext M a = .inr (am_kd M a, (List.range (am_ln M a).toNat).map (fun (j : Nat) => am_rv Bz ext (am_tg (am_sk (am_kd M a) j), am_gt M a j))) := if_pos h
theorem am_re_i {cy : Nat → ClassId} {Bz : Nat} {ext : Int → Nat} {M : am_M} {a : Int} (h : am_kd M a = 100 ∨ am_kd M a = 102) : am_re cy Bz ext M a = .inl (cy (am_kd M a), (am_ln M a).toNat, .inl (fun (j : Nat) => Int32.ofInt (am_gt M a j))) := by
  unfold am_re
  rw [if_neg (by omega), if_neg (by omega), if_neg (by omega)]
theorem am_re_l {cy : Nat → ClassId} {Bz : Nat} {ext : Int → Nat} {M : am_M} {a : Int} (h : am_kd M a = 101) : am_re cy Bz ext M a = .inl (cy 101, (am_ln M a).toNat, .inr (.inl (fun (j : Nat) => Int64.ofInt (am_gt M a j)))) := by
  unfold am_re
  rw [if_neg (by omega), if_pos h]
theorem am_re_r {cy : Nat → ClassId} {Bz : Nat} {ext : Int → Nat} {M : am_M} {a : Int} (h : 103 ≤ am_kd M a) : am_re cy Bz ext M a = .inl (cy (am_kd M a), (am_ln M a).toNat, .inr (.inr (.inr (.inr (fun (j : Nat) => am_rr Bz ext (am_gt M a j)))))) := by
  unfold am_re
  rw [if_neg (by omega), if_neg (by omega), if_pos h]
theorem am_st_nat {M : am_M} {a i v : Int} (hi : 0 ≤ i) (j : Nat) : am_gt (am_st M a i v) a j = if j = i.toNat then v else am_gt M a j := by
  by_cases h : j = i.toNat
  · rw [if_pos h, show ((j : Nat) : Int) = i by omega]
    exact am_st_self
  · rw [if_neg h]
    exact am_st_ne (Or.inr (by omega))
/-! a new cell -/
theorem am_kd_nw (M : am_M) (k : Nat) (n b : Int) : am_kd (am_nw M k n) b = if b = M.1 then k else am_kd M b := by
  show (if b = M.1 then (k, n) else M.2.2.1 b).1 = _
  split <;> rfl
theorem am_ln_nw (M : am_M) (k : Nat) (n b : Int) : am_ln (am_nw M k n) b = if b = M.1 then n else am_ln M b := by
  show (if b = M.1 then (k, n) else M.2.2.1 b).2 = _
  split <;> rfl
theorem am_gt_nw (M : am_M) (k : Nat) (n b j : Int) : am_gt (am_nw M k n) b j = if b = M.1 then am_df k j else am_gt M b j := rfl
theorem am_re_nw {cy : Nat → ClassId} {Bz : Nat} {ext : Int → Nat} {M : am_M} {k : Nat} {n b : Int} (h : b ≠ M.1) : am_re cy Bz ext (am_nw M k n) b = am_re cy Bz ext M b := by
  have e1 : am_kd (am_nw M k n) b = am_kd M b := by rw [am_kd_nw, if_neg h]
  have e2 : am_ln (am_nw M k n) b = am_ln M b := by rw [am_ln_nw, if_neg h]
  have e3 : ∀ j, am_gt (am_nw M k n) b j = am_gt M b j := fun j => by rw [am_gt_nw, if_neg h]
  unfold am_re
  simp only [e1, e2, e3]
theorem am_df_ok (k : Nat) (j : Int) : am_okv (am_sk k j) (am_df k j) := by
  unfold am_df
  rcases am_sk4 k j with e | e | e | e <;> rw [e]
  · rw [if_neg (by decide)]; show am_i32 0; exact am_i32_0
  · rw [if_neg (by decide)]; show am_i64 0; unfold am_i64; omega
  · trivial
  · rw [if_neg (by decide)]; exact Or.inl rfl
theorem am_ok.nw {L : Int} {xs : Int → Int} {M : am_M} {k : Nat} {n : Int} (h : am_ok L xs M) (hk : (k < 9 ∧ n = (am_nf k : Int)) ∨ (100 ≤ k ∧ k ≤ 105 ∧ 0 ≤ n ∧ n ≤ 65536)) : am_ok L xs (am_nw M k n) := by
  obtain ⟨h1, h2, h3, h4, h5, h6, h7, h8, h9, h10, h11, h12⟩ := h
  have hn : 0 ≤ n := by omega
  refine ⟨by show 0 ≤ M.1 + 1; omega, by show 0 ≤ M.2.1 + n; omega, fun a ha => ?_, fun a ha hb => ?_, fun a ha => ?_, fun a ha hb => ?_, fun a i ha => ?_, fun a ha => ?_, ?_, fun i => ?_, fun a ha => ?_, fun q hq => ⟨?_, fun i hi => ?_⟩⟩
  · show 0 ≤ a ∧ a < M.1 + 1
    rw [am_kd_nw] at ha
    split at ha
    · omega
    · have := h3 a ha; omega
  · rw [am_kd_nw]
    split
    · omega
    · exact h4 a ha (by have : a < M.1 + 1 := hb; omega)
  · rw [am_kd_nw] at ha ⊢
    rw [am_ln_nw]
    split
    · rename_i e; rw [if_pos e] at ha; omega
    · rename_i e; rw [if_neg e] at ha; exact h5 a ha
  · rw [am_kd_nw] at ha hb
    rw [am_ln_nw]
    split
    · rename_i e; rw [if_pos e] at ha; omega
    · rename_i e; rw [if_neg e] at ha hb; exact h6 a ha hb
  · rw [am_kd_nw] at ha ⊢
    rw [am_gt_nw]
    split
    · exact am_df_ok k i
    · rename_i e; rw [if_neg e] at ha; exact h7 a i ha
  · rw [am_kd_nw] at ha
    split at ha
    · omega
    · exact h8 a ha
  · rw [am_ln_nw, if_neg (by omega)]; exact h9
  · rw [am_gt_nw, if_neg (by omega)]; exact h10 i
  · rw [am_kd_nw] at ha
    split at ha
    · omega
    · exact h11 a ha
  · rw [am_ln_nw, if_neg (by omega)]; exact (h12 q hq).1
  · rw [am_gt_nw, if_neg (by omega)]; exact (h12 q hq).2 i hi
section AmOps
variable {l : Launch} {D : va_G} {cy : Nat → ClassId} {Bz : Nat} {ext : Int → Nat} {L : Int} {xs : Int → Int} {mi : Nat} {p : Program} {e : Env} {R : Room} {s : State} {m : MethodId} {args : Array Value} {below : List Frame} {meth : Method} {c : Code} {M0 : am_M} {Qf : State → Prop} {pc : Nat} {ls st : List am_V} {M : am_M}
theorem am_s_getf (X : am_Cx D cy mi p s m args meth c) {a : Int} {cl f i tg : Nat} (hd : decode (am_by mi) pc = .ok (.getfield i, 3)) (hq : (am_oc mi, i, cl, f) ∈ am_fl) (hc : cl < 9) (hf : f < am_nf cl) (htg : am_tg (am_sk cl f) = tg) (hkd : am_kd M a = cl) (k : (am_At l D cy Bz ext L xs mi p e R s m args below meth c M0 Qf (pc + 3) (ls) ((tg, am_gt M a f) :: st) (M))) : (am_At l D cy Bz ext L xs mi p e R s m args below meth c M0 Qf (pc) (ls) ((2, a) :: st) (M)) := by
  intro hok hst h1 h2 lr H locs hl hm hlo
  obtain ⟨g0, g1⟩ := hok.2.2.1 a (by omega)
  have hat := am_ws_at (cy := cy) (Bz := Bz) (ext := ext) (M := M) g0 g1
  have hv := hok.2.2.2.2.2.2.1 a f (by omega)
  rw [hkd] at hv
  have kk := k hok (am_SR.cons (v := (tg, am_gt M a f)) (htg ▸ am_okv_vk hv) hst.tl) h1 h2 lr H locs hl hm hlo
  rw [am_re_o (by omega), hkd] at hat
  rw [List.map_cons, am_rv2p g0]
  refine va_get X.1 X.2.1 X.2.2.2.2.1 (am_uu hc) X.2.2.2.1 X.2.2.2.2.2.1 hm a.toNat hat (am_clat hc) f hf (X.2.2.2.2.1 _ (am_fl_ok hq)) (fun x hx => by rw [am_Tc cl hc f hf] at hx; exact hx) (v := am_rv Bz ext (tg, am_gt M a f)) ?_ hd kk
  rw [List.getElem?_map, List.getElem?_range (by have := hok.2.2.2.2.1 a (by omega); rw [hkd] at this; omega), ← htg]
  rfl

theorem am_s_putf (X : am_Cx D cy mi p s m args meth c) {a v : Int} {cl f i tg : Nat} (hd : decode (am_by mi) pc = .ok (.putfield i, 3)) (hq : (am_oc mi, i, cl, f) ∈ am_fl) (hc : cl < 9) (hf : f < am_nf cl) (htg : am_tg (am_sk cl f) = tg) (hfin : (am_Ts cl f).2.2.2 = false) (hkd : am_kd M a = cl) (hv : am_okv (am_sk cl f) v) (k : (am_At l D cy Bz ext L xs mi p e R s m args below meth c M0 Qf (pc + 3) (ls) (st) (am_st M a f v))) : (am_At l D cy Bz ext L xs mi p e R s m args below meth c M0 Qf (pc) (ls) ((tg, v) :: (2, a) :: st) (M)) := by
  intro hok hst h1 h2 lr H locs hl hm hlo
  obtain ⟨g0, g1⟩ := hok.2.2.1 a (by omega)
  have hat := am_ws_at (cy := cy) (Bz := Bz) (ext := ext) (M := M) g0 g1
  have hok2 : am_ok L xs (am_st M a f v) := hok.st (by omega) (by rw [hkd]; exact hv)
  rw [am_re_o (by omega), hkd] at hat
  rw [List.map_cons, List.map_cons, am_rv2p g0]
  have hlen : f < (am_ln M a).toNat := by have := hok.2.2.2.2.1 a (by omega); rw [hkd] at this; omega
  obtain ⟨n1, n2⟩ := am_fit Bz ext hc hf hv
  rw [htg] at n1 n2
  refine va_put X.1 X.2.1 X.2.2.2.2.1 (am_uu hc) (am_Fs cl) (am_ftc hc) (am_nmc hc) X.2.2.2.1 X.2.2.2.2.2.1 hm (am_ws_D cy Bz ext M) hlo a.toNat hat (am_clat hc) f hf (X.2.2.2.2.1 _ (am_fl_ok hq)) (fun x hx => by rw [am_Tc cl hc f hf] at hx; exact hx) hfin (am_ftc hc f hf) n1 n2 (by rw [List.length_map, List.length_range]; exact hlen) hd (fun H1 locs1 hP1 _ hS1 => ?_)
  rw [am_ws_set (M := M) (M' := am_st M a f v) g0 rfl (fun b hb => am_re_st hb) ?_] at hP1
  · exact k hok2 hst.tl.tl h1 h2 lr H1 locs1 hl hP1 hS1
  · rw [am_re_o (by rw [am_kd_st]; omega), am_kd_st, am_ln_st, hkd]
    refine congrArg (fun z => (Sum.inr (cl, z) : va_E)) ?_
    refine List.ext_getElem? fun j => ?_
    rw [List.getElem?_set, List.getElem?_map, List.getElem?_map, List.length_map, List.length_range]
    by_cases hj : j < (am_ln M a).toNat
    · rw [List.getElem?_range hj]
      by_cases e1 : f = j
      · subst e1
        rw [if_pos rfl, if_pos hj]
        show some (am_rv Bz ext (am_tg (am_sk cl f), am_gt (am_st M a f v) a f)) = _
        rw [am_st_self, htg]
      · rw [if_neg e1]
        show some (am_rv Bz ext (am_tg (am_sk cl j), am_gt (am_st M a f v) a j)) = some (am_rv Bz ext (am_tg (am_sk cl j), am_gt M a j))
        rw [am_st_ne (Or.inr (by omega))]
    · rw [show (List.range (am_ln M a).toNat)[j]? = none from by rw [List.getElem?_eq_none_iff, List.length_range]; omega]
      rw [if_neg (by omega)]
      rfl

theorem am_s_putF (X : am_Cx D cy mi p s m args meth c) {a v : Int} {cl f i tg : Nat} (hd : decode (am_by mi) pc = .ok (.putfield i, 3)) (hq : (am_oc mi, i, cl, f) ∈ am_fl) (hc : cl < 9) (hf : f < am_nf cl) (htg : am_tg (am_sk cl f) = tg) (hfin : (am_Ts cl f).2.2.2 = true) (hini : (am_yn mi).name = "<init>") (hcl : am_oc mi = cl) (hkd : am_kd M a = cl) (hv : am_okv (am_sk cl f) v) (k : (am_At l D cy Bz ext L xs mi p e R s m args below meth c M0 Qf (pc + 3) (ls) (st) (am_st M a f v))) : (am_At l D cy Bz ext L xs mi p e R s m args below meth c M0 Qf (pc) (ls) ((tg, v) :: (2, a) :: st) (M)) := by
  intro hok hst h1 h2 lr H locs hl hm hlo
  obtain ⟨g0, g1⟩ := hok.2.2.1 a (by omega)
  have hat := am_ws_at (cy := cy) (Bz := Bz) (ext := ext) (M := M) g0 g1
  have hok2 : am_ok L xs (am_st M a f v) := hok.st (by omega) (by rw [hkd]; exact hv)
  rw [am_re_o (by omega), hkd] at hat
  rw [List.map_cons, List.map_cons, am_rv2p g0]
  have hlen : f < (am_ln M a).toNat := by have := hok.2.2.2.2.1 a (by omega); rw [hkd] at this; omega
  obtain ⟨n1, n2⟩ := am_fit Bz ext hc hf hv
  rw [htg] at n1 n2
  refine va_putF X.1 X.2.1 X.2.2.2.2.1 (am_uu hc) (am_Fs cl) (am_ftc hc) (am_nmc hc) X.2.2.2.1 X.2.2.2.2.2.1 hm (am_ws_D cy Bz ext M) hlo a.toNat hat (am_clat hc) f hf (X.2.2.2.2.1 _ (am_fl_ok hq)) (fun x hx => by rw [am_Tc cl hc f hf] at hx; exact hx) hfin (X.2.2.2.2.2.2.2 hini) (am_Tc cl hc f hf ▸ hcl ▸ rfl) (am_ftc hc f hf) n1 n2 (by rw [List.length_map, List.length_range]; exact hlen) hd (fun H1 locs1 hP1 _ hS1 => ?_)
  rw [am_ws_set (M := M) (M' := am_st M a f v) g0 rfl (fun b hb => am_re_st hb) ?_] at hP1
  · exact k hok2 hst.tl.tl h1 h2 lr H1 locs1 hl hP1 hS1
  · rw [am_re_o (by rw [am_kd_st]; omega), am_kd_st, am_ln_st, hkd]
    refine congrArg (fun z => (Sum.inr (cl, z) : va_E)) ?_
    refine List.ext_getElem? fun j => ?_
    rw [List.getElem?_set, List.getElem?_map, List.getElem?_map, List.length_map, List.length_range]
    by_cases hj : j < (am_ln M a).toNat
    · rw [List.getElem?_range hj]
      by_cases e1 : f = j
      · subst e1
        rw [if_pos rfl, if_pos hj]
        show some (am_rv Bz ext (am_tg (am_sk cl f), am_gt (am_st M a f v) a f)) = _
        rw [am_st_self, htg]
      · rw [if_neg e1]
        show some (am_rv Bz ext (am_tg (am_sk cl j), am_gt (am_st M a f v) a j)) = some (am_rv Bz ext (am_tg (am_sk cl j), am_gt M a j))
        rw [am_st_ne (Or.inr (by omega))]
    · rw [show (List.range (am_ln M a).toNat)[j]? = none from by rw [List.getElem?_eq_none_iff, List.length_range]; omega]
      rw [if_neg (by omega)]
      rfl

theorem am_s_iald (X : am_Cx D cy mi p s m args meth c) {a i : Int} (hd : decode (am_by mi) pc = .ok (.iaload, 1)) (hkd : am_kd M a = 100) (h0 : 0 ≤ i) (hi : i < am_ln M a) (k : (am_At l D cy Bz ext L xs mi p e R s m args below meth c M0 Qf (pc + 1) (ls) ((0, am_gt M a i) :: st) (M))) : (am_At l D cy Bz ext L xs mi p e R s m args below meth c M0 Qf (pc) (ls) ((0, i) :: (2, a) :: st) (M)) := by
  intro hok hst h1 h2 lr H locs hl hm hlo
  obtain ⟨g0, g1⟩ := hok.2.2.1 a (by omega)
  have hat := am_ws_at (cy := cy) (Bz := Bz) (ext := ext) (M := M) g0 g1
  have hv := hok.2.2.2.2.2.2.1 a i (by omega)
  rw [hkd] at hv
  have hz := hok.2.2.2.2.2.1 a (by omega) (by omega)
  have hi32 : am_i32 i := hst.hd
  have kk := k hok (am_SR.cons (v := (0, am_gt M a i)) (am_okv_vk (k := 100) (j := i) hv) hst.tl.tl) h1 h2 lr H locs hl hm hlo
  rw [am_re_i (Or.inl hkd), hkd] at hat
  rw [List.map_cons, List.map_cons, am_rv2p g0]
  refine va_iald X.1 X.2.1 X.2.2.2.2.2.1 hm a.toNat 0 hat rfl (am_vin h0 hi hz.2) hd ?_
  rw [am_cl32 hi32, Int.toNat_of_nonneg h0]
  exact kk

theorem am_s_lald (X : am_Cx D cy mi p s m args meth c) {a i : Int} (hd : decode (am_by mi) pc = .ok (.laload, 1)) (hkd : am_kd M a = 101) (h0 : 0 ≤ i) (hi : i < am_ln M a) (k : (am_At l D cy Bz ext L xs mi p e R s m args below meth c M0 Qf (pc + 1) (ls) ((1, am_gt M a i) :: st) (M))) : (am_At l D cy Bz ext L xs mi p e R s m args below meth c M0 Qf (pc) (ls) ((0, i) :: (2, a) :: st) (M)) := by
  intro hok hst h1 h2 lr H locs hl hm hlo
  obtain ⟨g0, g1⟩ := hok.2.2.1 a (by omega)
  have hat := am_ws_at (cy := cy) (Bz := Bz) (ext := ext) (M := M) g0 g1
  have hv := hok.2.2.2.2.2.2.1 a i (by omega)
  rw [hkd] at hv
  have hz := hok.2.2.2.2.2.1 a (by omega) (by omega)
  have hi32 : am_i32 i := hst.hd
  have kk := k hok (am_SR.cons (v := (1, am_gt M a i)) (am_okv_vk (k := 101) (j := i) hv) hst.tl.tl) h1 h2 lr H locs hl hm hlo
  rw [am_re_l hkd] at hat
  rw [List.map_cons, List.map_cons, am_rv2p g0]
  refine va_lald X.1 X.2.1 X.2.2.2.2.2.1 hm a.toNat 1 hat rfl (am_vin h0 hi hz.2) hd ?_
  rw [am_cl32 hi32, Int.toNat_of_nonneg h0]
  exact kk

theorem am_s_zald (X : am_Cx D cy mi p s m args meth c) {a i : Int} (hd : decode (am_by mi) pc = .ok (.baload, 1)) (hkd : am_kd M a = 102) (h0 : 0 ≤ i) (hi : i < am_ln M a) (k : (am_At l D cy Bz ext L xs mi p e R s m args below meth c M0 Qf (pc + 1) (ls) ((0, am_gt M a i) :: st) (M))) : (am_At l D cy Bz ext L xs mi p e R s m args below meth c M0 Qf (pc) (ls) ((0, i) :: (2, a) :: st) (M)) := by
  intro hok hst h1 h2 lr H locs hl hm hlo
  obtain ⟨g0, g1⟩ := hok.2.2.1 a (by omega)
  have hat := am_ws_at (cy := cy) (Bz := Bz) (ext := ext) (M := M) g0 g1
  have hv := hok.2.2.2.2.2.2.1 a i (by omega)
  rw [hkd] at hv
  have hz := hok.2.2.2.2.2.1 a (by omega) (by omega)
  have hi32 : am_i32 i := hst.hd
  have kk := k hok (am_SR.cons (v := (0, am_gt M a i)) (am_okv_vk (k := 102) (j := i) hv) hst.tl.tl) h1 h2 lr H locs hl hm hlo
  rw [am_re_i (Or.inr hkd), hkd] at hat
  rw [List.map_cons, List.map_cons, am_rv2p g0]
  refine va_zald X.1 X.2.1 X.2.2.2.2.2.1 hm a.toNat 2 hat rfl (am_vin h0 hi hz.2) hd ?_
  rw [am_cl32 hi32, Int.toNat_of_nonneg h0]
  exact kk

theorem am_s_iast (X : am_Cx D cy mi p s m args meth c) {a i v : Int} (hd : decode (am_by mi) pc = .ok (.iastore, 1)) (hkd : am_kd M a = 100) (h0 : 0 ≤ i) (hi : i < am_ln M a) (k : (am_At l D cy Bz ext L xs mi p e R s m args below meth c M0 Qf (pc + 1) (ls) (st) (am_st M a i v))) : (am_At l D cy Bz ext L xs mi p e R s m args below meth c M0 Qf (pc) (ls) ((0, v) :: (0, i) :: (2, a) :: st) (M)) := by
  intro hok hst h1 h2 lr H locs hl hm hlo
  obtain ⟨g0, g1⟩ := hok.2.2.1 a (by omega)
  have hat := am_ws_at (cy := cy) (Bz := Bz) (ext := ext) (M := M) g0 g1
  have hz := hok.2.2.2.2.2.1 a (by omega) (by omega)
  have hi32 : am_i32 i := hst.tl.hd
  have hok2 : am_ok L xs (am_st M a i v) := hok.st (by omega) (by rw [hkd]; exact hst.hd)
  rw [am_re_i (Or.inl hkd), hkd] at hat
  rw [List.map_cons, List.map_cons, List.map_cons, am_rv2p g0]
  refine va_iast X.1 X.2.1 X.2.2.2.2.2.1 hm (am_ws_D cy Bz ext M) hlo a.toNat 0 hat rfl (am_vin h0 hi hz.2) hd (fun H1 locs1 hP1 _ hS1 => ?_)
  rw [am_cl32 hi32, am_ws_set (M := M) (M' := am_st M a i v) g0 rfl (fun b hb => am_re_st hb) ?_] at hP1
  · exact k hok2 hst.tl.tl.tl h1 h2 lr H1 locs1 hl hP1 hS1
  · rw [am_re_i (by rw [am_kd_st]; omega), am_kd_st, hkd, am_ln_st]
    refine congrArg (fun z => (Sum.inl (cy 100, (am_ln M a).toNat, Sum.inl z) : va_E)) (funext fun j => ?_)
    show Int32.ofInt (am_gt (am_st M a i v) a j) = upd (fun (j : Nat) => Int32.ofInt (am_gt M a j)) i.toNat (Int32.ofInt v) j
    unfold upd
    rw [am_st_nat h0]
    split <;> rfl

theorem am_s_last (X : am_Cx D cy mi p s m args meth c) {a i v : Int} (hd : decode (am_by mi) pc = .ok (.lastore, 1)) (hkd : am_kd M a = 101) (h0 : 0 ≤ i) (hi : i < am_ln M a) (k : (am_At l D cy Bz ext L xs mi p e R s m args below meth c M0 Qf (pc + 1) (ls) (st) (am_st M a i v))) : (am_At l D cy Bz ext L xs mi p e R s m args below meth c M0 Qf (pc) (ls) ((1, v) :: (0, i) :: (2, a) :: st) (M)) := by
  intro hok hst h1 h2 lr H locs hl hm hlo
  obtain ⟨g0, g1⟩ := hok.2.2.1 a (by omega)
  have hat := am_ws_at (cy := cy) (Bz := Bz) (ext := ext) (M := M) g0 g1
  have hz := hok.2.2.2.2.2.1 a (by omega) (by omega)
  have hi32 : am_i32 i := hst.tl.hd
  have hok2 : am_ok L xs (am_st M a i v) := hok.st (by omega) (by rw [hkd]; exact hst.hd)
  rw [am_re_l hkd] at hat
  rw [List.map_cons, List.map_cons, List.map_cons, am_rv2p g0]
  refine va_last X.1 X.2.1 X.2.2.2.2.2.1 hm (am_ws_D cy Bz ext M) hlo a.toNat 1 hat rfl (am_vin h0 hi hz.2) hd (fun H1 locs1 hP1 _ hS1 => ?_)
  rw [am_cl32 hi32, am_ws_set (M := M) (M' := am_st M a i v) g0 rfl (fun b hb => am_re_st hb) ?_] at hP1
  · exact k hok2 hst.tl.tl.tl h1 h2 lr H1 locs1 hl hP1 hS1
  · rw [am_re_l (by rw [am_kd_st]; exact hkd), am_ln_st]
    refine congrArg (fun z => (Sum.inl (cy 101, (am_ln M a).toNat, Sum.inr (Sum.inl z)) : va_E)) (funext fun j => ?_)
    show Int64.ofInt (am_gt (am_st M a i v) a j) = vp_updL (fun (j : Nat) => Int64.ofInt (am_gt M a j)) i.toNat (Int64.ofInt v) j
    unfold vp_updL
    rw [am_st_nat h0]
    split <;> rfl

theorem am_s_zast (X : am_Cx D cy mi p s m args meth c) {a i v : Int} (hd : decode (am_by mi) pc = .ok (.bastore, 1)) (hkd : am_kd M a = 102) (h0 : 0 ≤ i) (hi : i < am_ln M a) (hv : v = 0 ∨ v = 1) (k : (am_At l D cy Bz ext L xs mi p e R s m args below meth c M0 Qf (pc + 1) (ls) (st) (am_st M a i v))) : (am_At l D cy Bz ext L xs mi p e R s m args below meth c M0 Qf (pc) (ls) ((0, v) :: (0, i) :: (2, a) :: st) (M)) := by
  intro hok hst h1 h2 lr H locs hl hm hlo
  obtain ⟨g0, g1⟩ := hok.2.2.1 a (by omega)
  have hat := am_ws_at (cy := cy) (Bz := Bz) (ext := ext) (M := M) g0 g1
  have hz := hok.2.2.2.2.2.1 a (by omega) (by omega)
  have hi32 : am_i32 i := hst.tl.hd
  have hok2 : am_ok L xs (am_st M a i v) := hok.st (by omega) (by rw [hkd]; exact hv)
  rw [am_re_i (Or.inr hkd), hkd] at hat
  rw [List.map_cons, List.map_cons, List.map_cons, am_rv2p g0]
  refine va_zast X.1 X.2.1 X.2.2.2.2.2.1 hm (am_ws_D cy Bz ext M) hlo a.toNat 2 hat rfl (am_vin h0 hi hz.2) hd (fun H1 locs1 hP1 _ hS1 => ?_)
  rw [am_cl32 hi32, am_ws_set (M := M) (M' := am_st M a i v) g0 rfl (fun b hb => am_re_st hb) ?_] at hP1
  · exact k hok2 hst.tl.tl.tl h1 h2 lr H1 locs1 hl hP1 hS1
  · rw [am_re_i (by rw [am_kd_st]; omega), am_kd_st, hkd, am_ln_st]
    refine congrArg (fun z => (Sum.inl (cy 102, (am_ln M a).toNat, Sum.inl z) : va_E)) (funext fun j => ?_)
    have hn : vp_nar .boolean (Int32.ofInt v) = Int32.ofInt v := by rcases hv with rfl | rfl <;> rfl
    show Int32.ofInt (am_gt (am_st M a i v) a j) = upd (fun (j : Nat) => Int32.ofInt (am_gt M a j)) i.toNat (vp_nar .boolean (Int32.ofInt v)) j
    rw [hn]
    unfold upd
    rw [am_st_nat h0]
    split <;> rfl
end AmOps
