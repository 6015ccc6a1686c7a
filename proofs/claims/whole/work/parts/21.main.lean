theorem am_lk_ck {mi : Nat} (h : am_chk mi = true) {pc : Nat} (h99 : (am_lk (am_cs mi) pc).1 ≠ 99) : am_ck mi pc (am_lk (am_cs mi) pc) = true := by
  unfold am_chk at h
  simp only [Bool.and_eq_true] at h
  have h := h.1.1.1.1.1.1
  have k1 : ∀ (l : List (Nat × am_I)), (∀ q ∈ l, am_ck mi q.1 q.2 = true) → (am_look l pc).1 ≠ 99 → am_ck mi pc (am_look l pc) = true := by
    intro l
    induction l with
    | nil => intro _ h; exact absurd rfl h
    | cons q qs ih =>
      intro hl hn
      unfold am_look at hn ⊢
      cases hb : Nat.beq q.1 pc with
      | true =>
        have e := Nat.eq_of_beq_eq_true hb
        subst e
        exact hl q List.mem_cons_self
      | false =>
        rw [hb] at hn
        exact ih (fun q' hq' => hl q' (List.mem_cons_of_mem _ hq')) hn
  have k2 : ∀ (l : List (Nat × List (Nat × am_I))), (∀ ch ∈ l, ∀ q ∈ ch.2, am_ck mi q.1 q.2 = true) → (am_lk l pc).1 ≠ 99 → am_ck mi pc (am_lk l pc) = true := by
    intro l
    induction l with
    | nil => intro _ h; exact absurd rfl h
    | cons q qs ih =>
      intro hl hn
      unfold am_lk at hn ⊢
      cases hb : Nat.blt pc q.1 with
      | true =>
        rw [hb] at hn
        exact k1 q.2 (hl q List.mem_cons_self) hn
      | false =>
        rw [hb] at hn
        exact ih (fun q' hq' => hl q' (List.mem_cons_of_mem _ hq')) hn
  exact k2 _ (fun ch hch q hq => List.all_eq_true.mp (List.all_eq_true.mp h ch hch) q hq) h99
theorem am_body99 {sw : Nat → Nat × List (Int × Nat)} {d : Nat} {ai : am_I} {pc : Nat} {ls st : List am_V} {M : am_M} {K : Nat → List am_V → List am_V → am_M → Prop} {C : Nat → List am_V → am_M → (List am_V → am_M → Prop) → Prop} {Q : List am_V → am_M → Prop} (h : am_body sw d ai pc ls st M K C Q) : ai.1 ≠ 99 := by
  intro e
  obtain ⟨op, x, y, z, w⟩ := ai
  have e : op = 99 := e
  subst e
  exact h
section AmMain
variable {l : Launch} {D : va_G} {cy : Nat → ClassId} {Bz : Nat} {ext : Int → Nat} {adV : Nat → Nat} {L : Int} {xs : Int → Int}
/-- THE REAL MACHINE DOES WHAT THE SMALL ONE DOES -/
theorem am_sound (hchk : ∀ y, y < 266 → am_chk y = true) (hL : 0 ≤ L ∧ L ≤ 3072) (hxs : ∀ j, am_i32 (xs j)) : ∀ (n : Nat) {mi : Nat} {d pc : Nat} {ls st : List am_V} {M M0 Me : am_M} {r : List am_V} {p : Program} {e : Env} {R : Room} {s : State} {m : MethodId} {args : Array Value} {below : List Frame} {meth : Method} {c : Code} {Qf : State → Prop},
    mi < 266 → am_Cx D cy mi p s m args meth c → am_Ex Bz ext adV L xs s s.heap → s.heap.size = Bz + M0.1.toNat → 0 ≤ M0.1 → d ≤ R.frames → 100 * d ≤ R.locals → Me.1 - M0.1 ≤ (R.cells : Int) → Me.2.1 - M0.2.1 ≤ (R.slots : Int) →
    (∀ pc ls, am_Re mi pc r → am_At l D cy Bz ext L xs mi p e R s m args below meth c M0 Qf pc ls r Me) → am_wp n d (am_cs mi) pc ls st M (fun r' M' => r' = r ∧ M' = Me) → am_At l D cy Bz ext L xs mi p e R s m args below meth c M0 Qf pc ls st M
  | 0, _, _, _, _, _, _, _, _, _, _, _, _, _, _, _, _, _, _, _, _, _, _, _, _, _, _, _, _, _, h => h.elim
  | n + 1, mi, d, pc, ls, st, M, M0, Me, r, p, e, R, s, m, args, below, meth, c, Qf, hmi, X, hEx, hs0, hz0, hfr, hlc, hrc, hrs, hE, h => by
    have hg := am_wp_end h
    refine am_one (d := d) (ai := am_lk (am_cs mi) pc) (Me := Me) X hEx hchk (am_lk_ck (hchk mi hmi) (am_body99 h)) hs0 hz0 hfr hlc hrc hrs hL hxs h ?_ ?_ ?_
    · intro pc' ls' st' M' hk
      exact ⟨am_sound hchk hL hxs n hmi X hEx hs0 hz0 hfr hlc hrc hrs hE hk, (am_wp_end hk).1, (am_wp_end hk).2⟩
    · intro y aa M1 Q0 hc hok1 hsr1 hy hy2
      obtain ⟨hd, hc⟩ := hc
      obtain ⟨hb, hc⟩ := am_bif hc
      obtain ⟨r1, M2, hq0, hw⟩ := am_wp_det n hc
      have hg2 := am_wp_end hw
      refine ⟨r1, M2, d - 1, by omega, hq0, hg2.1, hg2.2, ?_⟩
      refine am_met (hchk y hy) hsr1 (Nat.le_of_ble_eq_true hb) hok1 ?_
      intro p' e' s' m' below' meth' c' X' hEx' hret' hlk' hsz'
      refine am_sound hchk hL hxs n hy X' hEx' hsz' hok1.1 (Nat.le_refl _) (Nat.le_refl _) (by show M2.1 - M1.1 ≤ (((M2.1 - M1.1).toNat : Nat) : Int); omega) (by show M2.2.1 - M1.2.1 ≤ (((M2.2.1 - M1.2.1).toNat : Nat) : Int); omega) ?_ hw
      intro pc2 ls2 hre hok hst h1 h2 lr H locs hl hm hlo
      exact am_end X' hret' hlk' hok hst hm hlo hre
    · intro r' hq hre
      obtain ⟨rfl, rfl⟩ := hq
      exact hE pc ls hre
end AmMain
