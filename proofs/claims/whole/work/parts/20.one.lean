theorem am_dcok {mi pc n : Nat} {i : Instr} (h : am_dc mi pc i n = true) : decode (am_by mi) pc = .ok (i, n) := of_decide_eq_true h
theorem am_a1 {a b : Bool} (h : (a && b) = true) : a = true := ((Bool.and_eq_true a b) ▸ h : a = true ∧ b = true).1
theorem am_a2 {a b : Bool} (h : (a && b) = true) : b = true := ((Bool.and_eq_true a b) ▸ h : a = true ∧ b = true).2
theorem am_b32ok {x : Int} (h : am_b32 x = true) : am_i32 x := of_decide_eq_true (p := -2147483648 ≤ x ∧ x ≤ 2147483647) h
theorem am_b64ok {x : Int} (h : am_b64 x = true) : am_i64 x := of_decide_eq_true (p := -9223372036854775808 ≤ x ∧ x ≤ 9223372036854775807) h
theorem am_ck3 {mi pc y z w : Nat} {x : Int} (h : am_ck mi pc (3, x, y, z, w) = true) : ∃ i, (am_oc mi, i, x) ∈ am_ki ∧ decode (am_by mi) pc = .ok (.ldc i, 2) ∧ am_i32 x := by
  change (match am_ki[w]? with | some q => decide (q.1 = am_oc mi) && decide (q.2.2 = x) && am_dc mi pc (.ldc q.2.1) 2 && am_b32 x | none => false) = true at h
  split at h
  · rename_i q hq
    simp only [Bool.and_eq_true, decide_eq_true_eq] at h
    obtain ⟨⟨⟨h1, h2⟩, h3⟩, h4⟩ := h
    exact ⟨q.2.1, by rw [← h1, ← h2]; exact List.mem_of_getElem? hq, am_dcok h3, am_b32ok h4⟩
  · cases h
theorem am_ck7 {mi pc y z w : Nat} {x : Int} (h : am_ck mi pc (7, x, y, z, w) = true) : ∃ i, (am_oc mi, i, x) ∈ am_ki ∧ decode (am_by mi) pc = .ok (.ldc_w i, 3) ∧ am_i32 x := by
  change (match am_ki[w]? with | some q => decide (q.1 = am_oc mi) && decide (q.2.2 = x) && am_dc mi pc (.ldc_w q.2.1) 3 && am_b32 x | none => false) = true at h
  split at h
  · rename_i q hq
    simp only [Bool.and_eq_true, decide_eq_true_eq] at h
    obtain ⟨⟨⟨h1, h2⟩, h3⟩, h4⟩ := h
    exact ⟨q.2.1, by rw [← h1, ← h2]; exact List.mem_of_getElem? hq, am_dcok h3, am_b32ok h4⟩
  · cases h
theorem am_ck4 {mi pc y z w : Nat} {x : Int} (h : am_ck mi pc (4, x, y, z, w) = true) : ∃ i, (am_oc mi, i, x) ∈ am_kl ∧ decode (am_by mi) pc = .ok (.ldc2_w i, 3) ∧ am_i64 x := by
  change (match am_kl[w]? with | some q => decide (q.1 = am_oc mi) && decide (q.2.2 = x) && am_dc mi pc (.ldc2_w q.2.1) 3 && am_b64 x | none => false) = true at h
  split at h
  · rename_i q hq
    simp only [Bool.and_eq_true, decide_eq_true_eq] at h
    obtain ⟨⟨⟨h1, h2⟩, h3⟩, h4⟩ := h
    exact ⟨q.2.1, by rw [← h1, ← h2]; exact List.mem_of_getElem? hq, am_dcok h3, am_b64ok h4⟩
  · cases h
theorem am_ck71 {mi pc y z w : Nat} {x : Int} (h : am_ck mi pc (71, x, y, z, w) = true) : ∃ i, (am_oc mi, i, y) ∈ am_kc ∧ decode (am_by mi) pc = .ok (.new i, 3) ∧ y < 9 ∧ z = am_nf y := by
  change (match am_kc[w]? with | some q => decide (q.1 = am_oc mi) && decide (q.2.2 = y) && decide (z = am_nf y) && am_dc mi pc (.new q.2.1) 3 && decide (y < 9) | none => false) = true at h
  split at h
  · rename_i q hq
    simp only [Bool.and_eq_true, decide_eq_true_eq] at h
    obtain ⟨⟨⟨⟨h1, h2⟩, h3⟩, h4⟩, h5⟩ := h
    exact ⟨q.2.1, by rw [← h1, ← h2]; exact List.mem_of_getElem? hq, am_dcok h4, h5, h3⟩
  · cases h
theorem am_ck72 {mi pc y z w : Nat} {x : Int} (h : am_ck mi pc (72, x, y, z, w) = true) : (y = 100 ∧ decode (am_by mi) pc = .ok (.newarray .int, 2)) ∨ (y = 101 ∧ decode (am_by mi) pc = .ok (.newarray .long, 2)) ∨ (y = 102 ∧ decode (am_by mi) pc = .ok (.newarray .boolean, 2)) := by
  change (if y = 100 then am_dc mi pc (.newarray .int) 2 else if y = 101 then am_dc mi pc (.newarray .long) 2 else if y = 102 then am_dc mi pc (.newarray .boolean) 2 else false) = true at h
  split at h
  · rename_i e; exact Or.inl ⟨e, am_dcok h⟩
  · split at h
    · rename_i e; exact Or.inr (Or.inl ⟨e, am_dcok h⟩)
    · split at h
      · rename_i e; exact Or.inr (Or.inr ⟨e, am_dcok h⟩)
      · cases h
theorem am_ck73 {mi pc y z w : Nat} {x : Int} (h : am_ck mi pc (73, x, y, z, w) = true) : ∃ i, (am_oc mi, i, am_kcl y) ∈ am_kc ∧ decode (am_by mi) pc = .ok (.anewarray i, 3) ∧ 103 ≤ y ∧ y ≤ 105 := by
  change (match am_kc[w]? with | some q => decide (q.1 = am_oc mi) && decide (103 ≤ y ∧ y ≤ 105) && decide (q.2.2 = am_kcl y) && am_dc mi pc (.anewarray q.2.1) 3 | none => false) = true at h
  split at h
  · rename_i q hq
    simp only [Bool.and_eq_true, decide_eq_true_eq] at h
    obtain ⟨⟨⟨h1, h2⟩, h3⟩, h4⟩ := h
    exact ⟨q.2.1, by rw [← h1, ← h3]; exact List.mem_of_getElem? hq, am_dcok h4, h2.1, h2.2⟩
  · cases h
theorem am_flk_ok {mi pc c k w : Nat} {f : Nat → Instr} (h : am_flk mi pc c k w f = true) : ∃ i, (am_oc mi, i, c, k) ∈ am_fl ∧ decode (am_by mi) pc = .ok (f i, 3) ∧ c < 9 ∧ k < am_nf c := by
  unfold am_flk at h
  split at h
  · rename_i q hq
    simp only [Bool.and_eq_true, decide_eq_true_eq] at h
    obtain ⟨⟨⟨⟨⟨h1, h2⟩, h3⟩, h4⟩, h5⟩, h6⟩ := h
    exact ⟨q.2.1, by rw [← h1, ← h2, ← h3]; exact List.mem_of_getElem? hq, am_dcok h4, h5, h6⟩
  · cases h
theorem am_mlk_ok {mi pc y w : Nat} {f : Nat → Instr} {L : List (Nat × Nat × Nat)} (h : am_mlk mi pc y w f L = true) : ∃ i, (am_oc mi, i, y) ∈ L ∧ decode (am_by mi) pc = .ok (f i, 3) ∧ y < 266 := by
  unfold am_mlk at h
  split at h
  · rename_i q hq
    simp only [Bool.and_eq_true, decide_eq_true_eq] at h
    obtain ⟨⟨⟨⟨h1, h2⟩, h3⟩, h4⟩, h5⟩ := h
    exact ⟨q.2.1, by rw [← h1, ← h2]; exact h3, am_dcok h4, h5⟩
  · cases h
theorem am_jlk_ok {mi pc w k : Nat} {f : Nat → Instr} (h : am_jlk mi pc w k f = true) : (am_oc mi, w, k) ∈ am_jl ∧ decode (am_by mi) pc = .ok (f w, 3) := by
  unfold am_jlk at h
  simp only [Bool.and_eq_true, decide_eq_true_eq] at h
  exact ⟨h.1, am_dcok h.2⟩
theorem am_vk_okv {k : Nat} {j v : Int} (h : am_vk (am_tg (am_sk k j), v)) (h3 : am_sk k j ≠ 3) : am_okv (am_sk k j) v := by
  rcases am_sk4 k j with e | e | e | e <;> rw [e] at h ⊢
  · exact h
  · exact h
  · trivial
  · exact absurd e h3
theorem am_sw_mono {K K' : Nat → Prop} {v : Int} {dflt : Nat} (hk : ∀ t, K t → K' t) : ∀ {qs : List (Int × Nat)}, am_sw K v dflt qs → am_sw K' v dflt qs
  | [], h => hk _ h
  | _ :: _, h => ⟨fun e => hk _ (h.1 e), fun e => am_sw_mono hk (h.2 e)⟩
theorem am_blt {a b : Nat} (h : Nat.ble a b = true) : a ≤ b := Nat.le_of_ble_eq_true h
/-- no method of the lists of constructors answers -/
theorem am_im_rt : ∀ y ∈ am_im, (am_yn y).name = "<init>" → am_rt y = none := by decide +kernel
section AmOps
variable {l : Launch} {D : va_G} {cy : Nat → ClassId} {Bz : Nat} {ext : Int → Nat} {L : Int} {xs : Int → Int} {mi : Nat} {p : Program} {e : Env} {R : Room} {s : State} {m : MethodId} {args : Array Value} {below : List Frame} {meth : Method} {c : Code} {M0 : am_M} {Qf : State → Prop} {pc : Nat} {ls st : List am_V} {M : am_M}
set_option maxHeartbeats 8000000 in
set_option maxRecDepth 20000 in
theorem am_one {d : Nat} {ai : am_I} {adV : Nat → Nat} {K : Nat → List am_V → List am_V → am_M → Prop} {C : Nat → List am_V → am_M → (List am_V → am_M → Prop) → Prop} {Q : List am_V → am_M → Prop} {Me : am_M} (X : am_Cx D cy mi p s m args meth c) (hEx : am_Ex Bz ext adV L xs s s.heap) (hchk : ∀ y, y < 266 → am_chk y = true) (hck : am_ck mi pc ai = true) (hs0 : s.heap.size = Bz + M0.1.toNat) (hz0 : 0 ≤ M0.1) (hfr : d ≤ R.frames) (hlc : 100 * d ≤ R.locals) (hrc : Me.1 - M0.1 ≤ (R.cells : Int)) (hrs : Me.2.1 - M0.2.1 ≤ (R.slots : Int)) (hL : 0 ≤ L ∧ L ≤ 3072) (hxs : ∀ j, am_i32 (xs j))
    (h : am_body am_swt d ai pc ls st M K C Q) (hK : ∀ pc' ls' st' M', K pc' ls' st' M' → (am_At l D cy Bz ext L xs mi p e R s m args below meth c M0 Qf (pc') (ls') (st') (M')) ∧ M'.1 ≤ Me.1 ∧ M'.2.1 ≤ Me.2.1)
    (hC : ∀ y aa M1 Q0, C y aa M1 Q0 → am_ok L xs M1 → am_SR aa → y < 266 → y ≠ 262 → ∃ r M2 d', d = d' + 1 ∧ Q0 r M2 ∧ M1.1 ≤ M2.1 ∧ M1.2.1 ≤ M2.2.1 ∧ Met l (am_yn y) (am_wds y) (am_rm d' (M2.1 - M1.1).toNat (M2.2.1 - M1.2.1).toNat) (am_Pc D cy Bz ext adV L xs aa M1) (am_Qc D cy Bz ext L xs r M2) (M2.1 - M1.1).toNat (M2.2.1 - M1.2.1).toNat (am_A Bz))
    (hQ : ∀ r, Q r M → am_Re mi pc r → (am_At l D cy Bz ext L xs mi p e R s m args below meth c M0 Qf (pc) (ls) (r) (M))) : (am_At l D cy Bz ext L xs mi p e R s m args below meth c M0 Qf (pc) (ls) (st) (M)) := by
  obtain ⟨op, x, y, z, w⟩ := ai
  unfold am_body at h
  dsimp only at h
  split at h
  -- 0
  · exact am_s_iconst X (am_dcok (am_a1 hck)) (am_b32ok (am_a2 hck)) (hK _ _ _ _ h).1
  -- 1
  · exact am_s_bipush X (am_dcok (am_a1 (am_a1 hck))) (am_b32ok (am_a2 (am_a1 hck))) (of_decide_eq_true (am_a2 hck)) (hK _ _ _ _ h).1
  -- 2
  · exact am_s_sipush X (am_dcok (am_a1 (am_a1 hck))) (am_b32ok (am_a2 (am_a1 hck))) (of_decide_eq_true (am_a2 hck)) (hK _ _ _ _ h).1
  -- 3
  · obtain ⟨i, q1, q2, q3⟩ := am_ck3 hck
    exact am_s_ldc X q2 q3 q1 (hK _ _ _ _ h).1
  -- 7
  · obtain ⟨i, q1, q2, q3⟩ := am_ck7 hck
    exact am_s_ldcw X q2 q3 q1 (hK _ _ _ _ h).1
  -- 4
  · obtain ⟨i, q1, q2, q3⟩ := am_ck4 hck
    exact am_s_ldc2 X q2 q3 q1 (hK _ _ _ _ h).1
  -- 5
  · exact am_s_lconst X (am_dcok (am_a1 (am_a1 hck))) (am_b64ok (am_a2 hck)) (of_decide_eq_true (am_a2 (am_a1 hck))) (hK _ _ _ _ h).1
  -- 6
  · exact am_s_ldcs X hEx (am_dcok (am_a2 hck)) (of_decide_eq_true (am_a1 (am_a1 (am_a1 hck)))) (of_decide_eq_true (am_a2 (am_a1 (am_a1 hck)))) (of_decide_eq_true (am_a2 (am_a1 hck))) (hK _ _ _ _ h).1
  -- 8
  · exact am_s_null X (am_dcok hck) (hK _ _ _ _ h).1
  -- 10
  · split at h
    · rename_i v heq
      exact am_s_iload X (am_dcok hck) heq (hK _ _ _ _ h).1
    · exact h.elim
  -- 11
  · split at h
    · rename_i v heq
      exact am_s_iloadn X (am_dcok (am_a1 hck)) (of_decide_eq_true (am_a2 hck)) heq (hK _ _ _ _ h).1
    · exact h.elim
  -- 12
  · split at h
    · rename_i v heq
      exact am_s_lload X (am_dcok hck) heq (hK _ _ _ _ h).1
    · exact h.elim
  -- 13
  · split at h
    · rename_i v heq
      exact am_s_lloadn X (am_dcok (am_a1 hck)) (of_decide_eq_true (am_a2 hck)) heq (hK _ _ _ _ h).1
    · exact h.elim
  -- 14
  · split at h
    · rename_i v heq
      exact am_s_aload X (am_dcok hck) heq (hK _ _ _ _ h).1
    · exact h.elim
  -- 15
  · split at h
    · rename_i v heq
      exact am_s_aloadn X (am_dcok (am_a1 hck)) (of_decide_eq_true (am_a2 hck)) heq (hK _ _ _ _ h).1
    · exact h.elim
  -- 16
  · split at h
    · exact am_s_istore X (am_dcok (am_a1 hck)) (of_decide_eq_true (am_a2 hck)) (hK _ _ _ _ h).1
    · exact h.elim
  -- 17
  · split at h
    · exact am_s_istoren X (am_dcok (am_a1 (am_a1 hck))) (of_decide_eq_true (am_a2 (am_a1 hck))) (of_decide_eq_true (am_a2 hck)) (hK _ _ _ _ h).1
    · exact h.elim
  -- 18
  · split at h
    · exact am_s_lstore X (am_dcok (am_a1 hck)) (of_decide_eq_true (am_a2 hck)) (hK _ _ _ _ h).1
    · exact h.elim
  -- 19
  · split at h
    · exact am_s_lstoren X (am_dcok (am_a1 (am_a1 hck))) (of_decide_eq_true (am_a2 (am_a1 hck))) (of_decide_eq_true (am_a2 hck)) (hK _ _ _ _ h).1
    · exact h.elim
  -- 20
  · split at h
    · exact am_s_astore X (am_dcok (am_a1 hck)) (of_decide_eq_true (am_a2 hck)) (hK _ _ _ _ h).1
    · exact h.elim
  -- 21
  · split at h
    · exact am_s_astoren X (am_dcok (am_a1 (am_a1 hck))) (of_decide_eq_true (am_a2 (am_a1 hck))) (of_decide_eq_true (am_a2 hck)) (hK _ _ _ _ h).1
    · exact h.elim
  -- 22
  · split at h
    · rename_i v heq
      exact am_s_iinc X (am_dcok (am_a1 hck)) (of_decide_eq_true (am_a2 hck)) heq (hK _ _ _ _ h).1
    · exact h.elim
  -- 23
  · split at h
    · exact am_s_dup0 X (am_dcok hck) (hK _ _ _ _ h).1
    · exact am_s_dup2r X (am_dcok hck) (hK _ _ _ _ h).1
    · exact h.elim
  -- 24
  · split at h
    · exact am_s_dup2 X (am_dcok hck) (hK _ _ _ _ h).1
    · exact h.elim
  -- 25
  · split at h
    · exact am_s_pop0 X (am_dcok hck) (hK _ _ _ _ h).1
    · exact am_s_pop2 X (am_dcok hck) (hK _ _ _ _ h).1
    · exact h.elim
  -- 30
  · split at h
    · exact am_s_iadd X (am_dcok hck) (hK _ _ _ _ h).1
    · exact h.elim
  -- 31
  · split at h
    · exact am_s_isub X (am_dcok hck) (hK _ _ _ _ h).1
    · exact h.elim
  -- 32
  · split at h
    · exact am_s_imul X (am_dcok hck) (hK _ _ _ _ h).1
    · exact h.elim
  -- 33
  · split at h
    · exact am_s_idiv X (am_dcok hck) h.1 (hK _ _ _ _ h.2).1
    · exact h.elim
  -- 34
  · split at h
    · exact am_s_irem X (am_dcok hck) h.1 (hK _ _ _ _ h.2).1
    · exact h.elim
  -- 35
  · split at h
    · exact am_s_ineg X (am_dcok hck) (hK _ _ _ _ h).1
    · exact h.elim
  -- 36
  · split at h
    · exact am_s_iand X (am_dcok hck) (hK _ _ _ _ h).1
    · exact h.elim
  -- 37
  · split at h
    · exact am_s_ior X (am_dcok hck) (hK _ _ _ _ h).1
    · exact h.elim
  -- 38
  · split at h
    · exact am_s_ixor X (am_dcok hck) (hK _ _ _ _ h).1
    · exact h.elim
  -- 39
  · split at h
    · exact am_s_ishl X (am_dcok hck) (hK _ _ _ _ h).1
    · exact h.elim
  -- 40
  · split at h
    · exact am_s_ishr X (am_dcok hck) (hK _ _ _ _ h).1
    · exact h.elim
  -- 41
  · split at h
    · exact am_s_iushr X (am_dcok hck) (hK _ _ _ _ h).1
    · exact h.elim
  -- 42
  · split at h
    · exact am_s_ladd X (am_dcok hck) (hK _ _ _ _ h).1
    · exact h.elim
  -- 43
  · split at h
    · exact am_s_lsub X (am_dcok hck) (hK _ _ _ _ h).1
    · exact h.elim
  -- 44
  · split at h
    · exact am_s_lmul X (am_dcok hck) (hK _ _ _ _ h).1
    · exact h.elim
  -- 45
  · split at h
    · exact am_s_ldiv X (am_dcok hck) h.1 (hK _ _ _ _ h.2).1
    · exact h.elim
  -- 46
  · split at h
    · exact am_s_lrem X (am_dcok hck) h.1 (hK _ _ _ _ h.2).1
    · exact h.elim
  -- 47
  · split at h
    · exact am_s_lcmp X (am_dcok hck) (hK _ _ _ _ h).1
    · exact h.elim
  -- 48
  · split at h
    · exact am_s_i2l X (am_dcok hck) (hK _ _ _ _ h).1
    · exact h.elim
  -- 49
  · split at h
    · exact am_s_l2i X (am_dcok hck) (hK _ _ _ _ h).1
    · exact h.elim
  -- 50
  · split at h
    · exact am_s_if X (am_dcok (am_a1 hck)) (of_decide_eq_true (am_a2 hck)) (fun hc => (hK _ _ _ _ (h.1 hc)).1) (fun hc => (hK _ _ _ _ (h.2 hc)).1)
    · exact h.elim
  -- 51
  · split at h
    · exact am_s_icmp X (am_dcok (am_a1 hck)) (of_decide_eq_true (am_a2 hck)) (fun hc => (hK _ _ _ _ (h.1 hc)).1) (fun hc => (hK _ _ _ _ (h.2 hc)).1)
    · exact h.elim
  -- 52
  · exact am_s_goto X (am_dcok hck) (hK _ _ _ _ h).1
  -- 54
  · split at h
    · exact am_s_ifnonnull X (am_dcok hck) (fun hc => (hK _ _ _ _ (h.1 hc)).1) (fun hc => (hK _ _ _ _ (h.2 hc)).1)
    · exact h.elim
  -- 55
  · split at h
    · exact am_s_sw X (dflt := (am_swt y).1) (qs := (am_swt y).2) hck (am_sw_mono (fun t ht => (hK _ _ _ _ ht).1) h)
    · exact h.elim
  -- 57
  · split at h
    · rename_i i a s2
      obtain ⟨q1, q2, q3, q4⟩ := h
      intro hok
      have ha := hok.2.2.2.2.2.2.2.1 a q1
      subst ha
      exact am_s_sld X (am_dcok hck) hEx.1.1 hEx.1.2 (by omega) hL hxs q2 q3 (hK _ _ _ _ q4).1 hok
    · exact h.elim
  -- 58
  · split at h
    · obtain ⟨q1, q2, q3⟩ := h
      obtain ⟨i, f1, f2, f3, f4⟩ := am_flk_ok (am_a1 (am_a1 hck))
      have hsk : am_sk y z = 3 := of_decide_eq_true (am_a2 (am_a1 hck))
      exact am_s_putf X f2 f1 f3 f4 (by rw [hsk]; rfl) (of_decide_eq_true (am_a2 hck)) q1 (by rw [hsk]; exact q2) (hK _ _ _ _ q3).1
    · exact h.elim
  -- 59
  · split at h
    · rename_i t v a s2
      obtain ⟨hb, q1, q3⟩ := am_bif h
      have hb : t = x.toNat := Nat.eq_of_beq_eq_true hb
      obtain ⟨i, f1, f2, f3, f4⟩ := am_flk_ok (am_a1 (am_a1 (am_a1 (am_a1 (am_a1 hck)))))
      have htg : am_tg (am_sk y z) = t := (of_decide_eq_true (am_a2 (am_a1 (am_a1 (am_a1 (am_a1 hck)))))).trans hb.symm
      have h3 : am_sk y z ≠ 3 := of_decide_eq_true (am_a2 (am_a1 (am_a1 (am_a1 hck))))
      intro hok hst
      have hv : am_vk (t, v) := hst.hd
      rw [← htg] at hv
      exact am_s_putF X f2 f1 f3 f4 htg (of_decide_eq_true (am_a2 (am_a1 (am_a1 hck)))) (of_decide_eq_true (am_a2 (am_a1 hck))) (of_decide_eq_true (am_a2 hck)) q1 (am_vk_okv hv h3) (hK _ _ _ _ q3).1 hok hst
    · exact h.elim
  -- 60
  · split at h
    · obtain ⟨i, f1, f2, f3, f4⟩ := am_flk_ok (am_a1 hck)
      exact am_s_getf X f2 f1 f3 f4 (of_decide_eq_true (am_a2 hck)) h.1 (hK _ _ _ _ h.2).1
    · exact h.elim
  -- 61
  · split at h
    · rename_i t v a s2
      obtain ⟨hb, q1, q3⟩ := am_bif h
      have hb : t = x.toNat := Nat.eq_of_beq_eq_true hb
      obtain ⟨i, f1, f2, f3, f4⟩ := am_flk_ok (am_a1 (am_a1 (am_a1 hck)))
      have htg : am_tg (am_sk y z) = t := (of_decide_eq_true (am_a2 (am_a1 (am_a1 hck)))).trans hb.symm
      have h3 : am_sk y z ≠ 3 := of_decide_eq_true (am_a2 (am_a1 hck))
      intro hok hst
      have hv : am_vk (t, v) := hst.hd
      rw [← htg] at hv
      exact am_s_putf X f2 f1 f3 f4 htg (of_decide_eq_true (am_a2 hck)) q1 (am_vk_okv hv h3) (hK _ _ _ _ q3).1 hok hst
    · exact h.elim
  -- 62
  · split at h
    · exact am_s_iald X (am_dcok hck) h.1 h.2.1 h.2.2.1 (hK _ _ _ _ h.2.2.2).1
    · exact h.elim
  -- 63
  · split at h
    · exact am_s_iast X (am_dcok hck) h.1 h.2.1 h.2.2.1 (hK _ _ _ _ h.2.2.2).1
    · exact h.elim
  -- 64
  · split at h
    · exact am_s_lald X (am_dcok hck) h.1 h.2.1 h.2.2.1 (hK _ _ _ _ h.2.2.2).1
    · exact h.elim
  -- 65
  · split at h
    · exact am_s_last X (am_dcok hck) h.1 h.2.1 h.2.2.1 (hK _ _ _ _ h.2.2.2).1
    · exact h.elim
  -- 66
  · split at h
    · exact am_s_zald X (am_dcok hck) h.1 h.2.1 h.2.2.1 (hK _ _ _ _ h.2.2.2).1
    · exact h.elim
  -- 67
  · split at h
    · exact am_s_zast X (am_dcok hck) h.1 h.2.1 h.2.2.1 h.2.2.2.1 (hK _ _ _ _ h.2.2.2.2).1
    · exact h.elim
  -- 68
  · split at h
    · have hr : 103 ≤ y ∧ y ≤ 105 := (of_decide_eq_true (am_a2 hck))
      exact am_s_aald X (am_dcok (am_a1 hck)) hr.1 hr.2 h.1 h.2.1 h.2.2.1 (hK _ _ _ _ h.2.2.2).1
    · exact h.elim
  -- 69
  · split at h
    · have hr : 103 ≤ y ∧ y ≤ 105 := of_decide_eq_true (am_a2 (am_a1 hck))
      have hz : z = am_kcl y := (of_decide_eq_true (am_a2 hck))
      exact am_s_aast X (am_dcok (am_a1 (am_a1 hck))) hr.1 hr.2 h.1 h.2.1 h.2.2.1 (hz ▸ h.2.2.2.1) (hK _ _ _ _ h.2.2.2.2).1
    · exact h.elim
  -- 70
  · split at h
    · rename_i a s2
      obtain ⟨q1, q2⟩ := h
      have hr : y = 100 ∨ y = 101 ∨ y = 110 := (of_decide_eq_true (am_a2 hck))
      by_cases hy : y = 110
      · subst hy
        intro hok
        have ha := hok.2.2.2.2.2.2.2.1 a q1
        subst ha
        exact am_s_slen X (am_dcok (am_a1 hck)) hEx.1.1 hEx.1.2 (by omega) hL (hK _ _ _ _ q2).1 hok
      · exact am_s_alen X (am_dcok (am_a1 hck)) (by omega) q1 (hK _ _ _ _ q2).1
    · exact h.elim
  -- 71
  · obtain ⟨k1, k2, k3⟩ := hK _ _ _ _ h
    obtain ⟨i, q1, q2, q3, q4⟩ := am_ck71 hck
    have k2 : M.1 + 1 ≤ Me.1 := k2
    have k3 : M.2.1 + (z : Int) ≤ Me.2.1 := k3
    exact am_s_new X q2 q1 q3 q4 (by omega) (by omega) hs0 hz0 k1
  -- 72
  · split at h
    · obtain ⟨n0, n1, h⟩ := h
      obtain ⟨k1, k2, k3⟩ := hK _ _ _ _ h
      rename_i n s2
      have k2 : M.1 + 1 ≤ Me.1 := k2
      have k3 : M.2.1 + n ≤ Me.2.1 := k3
      rcases am_ck72 hck with ⟨rfl, q⟩ | ⟨rfl, q⟩ | ⟨rfl, q⟩
      · exact am_s_newi X q n0 n1 (by omega) (by omega) hs0 hz0 k1
      · exact am_s_newl X q n0 n1 (by omega) (by omega) hs0 hz0 k1
      · exact am_s_newz X q n0 n1 (by omega) (by omega) hs0 hz0 k1
    · exact h.elim
  -- 73
  · split at h
    · obtain ⟨n0, n1, h⟩ := h
      obtain ⟨k1, k2, k3⟩ := hK _ _ _ _ h
      rename_i n s2
      have k2 : M.1 + 1 ≤ Me.1 := k2
      have k3 : M.2.1 + n ≤ Me.2.1 := k3
      obtain ⟨i, q1, q2, q3, q4⟩ := am_ck73 hck
      exact am_s_newr X q2 q1 q3 q4 n0 n1 (by omega) (by omega) hs0 hz0 k1
    · exact h.elim
  -- 74
  · obtain ⟨hb, h⟩ := am_bif h
    have b1 := am_blt (am_a1 hb)
    have b2 := am_blt (am_a2 hb)
    obtain ⟨i, q1, q2, q3⟩ := am_mlk_ok (am_a1 (am_a1 hck))
    have hsm : y ∈ am_sm := of_decide_eq_true (am_a2 (am_a1 hck))
    intro hok hst
    obtain ⟨r, M2, d', rfl, hq0, g1, g2, hM⟩ := hC _ _ _ _ h hok (fun v hv => hst v (List.mem_of_mem_take (List.mem_reverse.mp hv))) (am_sm_in y hsm).1 (am_sm_in y hsm).2
    obtain ⟨k1, k2, k3⟩ := hK _ _ _ _ hq0
    exact am_s_stat X q2 q1 hsm hEx (hchk y (am_sm_in y hsm).1) (of_decide_eq_true (am_a2 hck)) g1 g2 (by omega) (by omega) (by omega) (by omega) hs0 hz0 b1 b2 hM k1 hok hst
  -- 75
  · obtain ⟨hb, h⟩ := am_bif h
    have b1 := am_blt (am_a1 hb)
    have b2 := am_blt (am_a2 hb)
    split at h
    · rename_i a heq
      obtain ⟨i, q1, q2, q3⟩ := am_mlk_ok (am_a1 (am_a1 (am_a1 (am_a1 hck))))
      have hvm : y ∈ am_vm := of_decide_eq_true (am_a2 (am_a1 (am_a1 (am_a1 hck))))
      have hcl : am_oc y = x.toNat := of_decide_eq_true (am_a2 (am_a1 hck))
      have h9 : x.toNat < 9 := of_decide_eq_true (am_a2 hck)
      have h9b : am_oc y < 9 := by omega
      have hk0 : am_kd M a = am_oc y := by rw [hcl]; exact h.1
      have him := am_vm_in y hvm
      intro hok hst
      obtain ⟨r, M2, d', rfl, hq0, g1, g2, hM⟩ := hC _ _ _ _ h.2 hok (fun v hv => hst v (List.mem_of_mem_take (List.mem_reverse.mp hv))) (am_im_in y him).1 (am_im_in y him).2
      obtain ⟨k1, k2, k3⟩ := hK _ _ _ _ hq0
      exact am_s_virt X q2 q1 hvm hk0 h9b hEx (hchk y (am_im_in y him).1) (of_decide_eq_true (am_a2 (am_a1 (am_a1 hck)))) g1 g2 (by omega) (by omega) (by omega) (by omega) hs0 hz0 b1 heq b2 hM k1 hok hst
    · exact h.elim
  -- 76
  · obtain ⟨hb, h⟩ := am_bif h
    have b1 := am_blt (am_a1 hb)
    have b2 := am_blt (am_a2 hb)
    split at h
    · rename_i a heq
      obtain ⟨i, q1, q2, q3⟩ := am_mlk_ok (am_a1 (am_a1 (am_a1 (am_a1 (am_a1 hck)))))
      have him : y ∈ am_im := of_decide_eq_true (am_a2 (am_a1 (am_a1 (am_a1 (am_a1 hck)))))
      have hcl : am_oc y = x.toNat := of_decide_eq_true (am_a2 (am_a1 (am_a1 hck)))
      have hnm : (am_yn y).name = "<init>" := of_decide_eq_true (am_a2 (am_a1 hck))
      have h9 : x.toNat < 9 := of_decide_eq_true (am_a2 hck)
      have h9b : am_oc y < 9 := by omega
      have hk0 : am_kd M a = am_oc y := by rw [hcl]; exact h.1
      intro hok hst
      obtain ⟨r, M2, d', rfl, hq0, g1, g2, hM⟩ := hC _ _ _ _ h.2 hok (fun v hv => hst v (List.mem_of_mem_take (List.mem_reverse.mp hv))) (am_im_in y him).1 (am_im_in y him).2
      obtain ⟨k1, k2, k3⟩ := hK _ _ _ _ hq0
      exact am_s_spec X q2 q1 him hnm (am_im_rt y him hnm) hk0 h9b hEx (hchk y (am_im_in y him).1) (of_decide_eq_true (am_a2 (am_a1 (am_a1 (am_a1 hck))))) g1 g2 (by omega) (by omega) (by omega) (by omega) hs0 hz0 b1 heq b2 hM k1 hok hst
    · exact h.elim
  -- 77
  · obtain ⟨hb, h⟩ := am_bif h
    have b1 := am_blt (am_a1 hb)
    have b2 := am_blt (am_a2 hb)
    split at h
    · rename_i a heq
      obtain ⟨i, q1, q2, q3⟩ := am_mlk_ok (am_a1 (am_a1 (am_a1 (am_a1 (am_a1 hck)))))
      have him : y ∈ am_im := of_decide_eq_true (am_a2 (am_a1 (am_a1 (am_a1 (am_a1 hck)))))
      have hcl : am_oc y = x.toNat := of_decide_eq_true (am_a2 (am_a1 (am_a1 hck)))
      have hnm : (am_yn y).name = "<init>" := of_decide_eq_true (am_a2 (am_a1 hck))
      have h9 : x.toNat < 9 := of_decide_eq_true (am_a2 hck)
      have h9b : am_oc y < 9 := by omega
      have hk0 : am_kd M a = am_oc y := by rw [hcl]; exact h.1
      intro hok hst
      obtain ⟨r, M2, d', rfl, hq0, g1, g2, hM⟩ := hC _ _ _ _ h.2 hok (fun v hv => hst v (List.mem_of_mem_take (List.mem_reverse.mp hv))) (am_im_in y him).1 (am_im_in y him).2
      obtain ⟨k1, k2, k3⟩ := hK _ _ _ _ hq0
      exact am_s_nest X q2 q1 him hnm (am_im_rt y him hnm) hk0 h9b hEx (hchk y (am_im_in y him).1) (of_decide_eq_true (am_a2 (am_a1 (am_a1 (am_a1 hck))))) g1 g2 (by omega) (by omega) (by omega) (by omega) hs0 hz0 b1 heq b2 hM k1 hok hst
    · exact h.elim
  -- 78
  · split at h
    · obtain ⟨q1, q2⟩ := am_jlk_ok hck
      obtain ⟨h1, h2, h3⟩ := h
      obtain ⟨hb, h3⟩ := am_bif h3
      exact am_s_oinit X q2 q1 h1 (by omega) (by omega) (am_blt hb) (hK _ _ _ _ h3).1
    · exact h.elim
  -- 79
  · split at h
    · obtain ⟨q1, q2⟩ := am_jlk_ok hck
      obtain ⟨h1, h3⟩ := h
      obtain ⟨hb, h3⟩ := am_bif h3
      obtain ⟨k1, k2, k3⟩ := hK _ _ _ _ h3
      exact am_s_mmax X q2 q1 (by omega) (by omega) (am_blt hb) (by omega) (by omega) k1
    · exact h.elim
  -- 80
  · split at h
    · obtain ⟨q1, q2⟩ := am_jlk_ok hck
      obtain ⟨h1, h3⟩ := h
      obtain ⟨hb, h3⟩ := am_bif h3
      obtain ⟨k1, k2, k3⟩ := hK _ _ _ _ h3
      exact am_s_mmin X q2 q1 (by omega) (by omega) (am_blt hb) (by omega) (by omega) k1
    · exact h.elim
  -- 81
  · split at h
    · obtain ⟨q1, q2⟩ := am_jlk_ok hck
      obtain ⟨h1, a1, a2, a3, a4, a5, a6, a7, h3⟩ := h
      obtain ⟨hb, h3⟩ := am_bif h3
      exact am_s_acopy X q2 q1 (by omega) (by omega) (am_blt hb) a1 a2 a3 a4 a5 a6 a7 (hK _ _ _ _ h3).1
    · exact h.elim
  -- 82
  · split at h
    · obtain ⟨q1, q2⟩ := am_jlk_ok hck
      obtain ⟨h1, a1, h3⟩ := h
      obtain ⟨hb, h3⟩ := am_bif h3
      obtain ⟨k1, k2, k3⟩ := hK _ _ _ _ h3
      exact am_s_strlen X hEx q2 q1 (by omega) (by omega) (am_blt hb) a1 (by omega) (by omega) k1
    · exact h.elim
  -- 83
  · split at h
    · obtain ⟨q1, q2⟩ := am_jlk_ok hck
      obtain ⟨h1, a1, a2, a3, h3⟩ := h
      obtain ⟨hb, h3⟩ := am_bif h3
      obtain ⟨k1, k2, k3⟩ := hK _ _ _ _ h3
      exact am_s_strat X hEx q2 q1 (by omega) (by omega) (am_blt hb) a1 a2 a3 (by omega) (by omega) k1
    · exact h.elim
  -- 84
  · split at h
    · rename_i a s2
      obtain ⟨q1, q2⟩ := am_jlk_ok hck
      obtain ⟨h1, a1, a2, h3⟩ := h
      obtain ⟨hb, h3⟩ := am_bif h3
      obtain ⟨k1, k2, k3⟩ := hK _ _ _ _ h3
      have k2 : M.1 + 1 ≤ Me.1 := k2
      have k3 : M.2.1 + am_ln M a ≤ Me.2.1 := k3
      exact am_s_clone X q2 q1 (by omega) (by omega) (am_blt hb) a1 (by omega) (by omega) hs0 hz0 k1
    · exact h.elim
  -- 85
  · split at h
    · exact am_s_castA X (am_dcok (am_a1 hck)) (of_decide_eq_true (am_a2 hck)) h.1 (hK _ _ _ _ h.2).1
    · exact h.elim
  -- 90
  · split at h
    · exact hQ _ h (Or.inl ⟨_, rfl, (of_decide_eq_true (am_a2 hck)), (am_dcok (am_a1 hck))⟩)
    · exact h.elim
  -- 91
  · split at h
    · exact hQ _ h.2 (Or.inr (Or.inl ⟨_, rfl, h.1, (of_decide_eq_true (am_a2 hck)), (am_dcok (am_a1 hck))⟩))
    · exact h.elim
  -- 92
  · split at h
    · exact hQ _ h (Or.inr (Or.inr (Or.inl ⟨_, rfl, (of_decide_eq_true (am_a2 hck)), (am_dcok (am_a1 hck))⟩)))
    · exact h.elim
  -- 93
  · split at h
    · exact hQ _ h (Or.inr (Or.inr (Or.inr (Or.inl ⟨_, rfl, (of_decide_eq_true (am_a2 hck)), (am_dcok (am_a1 hck))⟩))))
    · exact h.elim
  -- 94
  · split at h
    · exact hQ _ h (Or.inr (Or.inr (Or.inr (Or.inr ⟨rfl, (of_decide_eq_true (am_a2 hck)), (am_dcok (am_a1 hck))⟩))))
    · exact h.elim
  · exact h.elim
end AmOps
