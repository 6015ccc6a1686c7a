/-! what an instruction does, by its kind: it goes on, calls or ends -/
def am_Rd (sw : Nat → Nat × List (Int × Nat)) (d : Nat) (ai : am_I) (pc : Nat) (ls st : List am_V) (M : am_M) (K : Nat → List am_V → List am_V → am_M → Prop) (C : Nat → List am_V → am_M → (List am_V → am_M → Prop) → Prop) (Q : List am_V → am_M → Prop) : Prop :=
  (∃ pc' ls' st' M', K pc' ls' st' M' ∧ (M.1 ≤ M'.1 ∧ M.2.1 ≤ M'.2.1) ∧ ∀ K' C' Q', K' pc' ls' st' M' → am_body sw d ai pc ls st M K' C' Q') ∨
  (∃ mi args rest pc', C mi args M (fun r M' => K pc' ls (r ++ rest) M') ∧ ∀ K' C' Q', C' mi args M (fun r M' => K' pc' ls (r ++ rest) M') → am_body sw d ai pc ls st M K' C' Q') ∨
  (∃ r, Q r M ∧ ∀ K' C' Q', Q' r M → am_body sw d ai pc ls st M K' C' Q')
theorem am_sw_rd {K : Nat → Prop} {v : Int} {dflt : Nat} : ∀ {qs : List (Int × Nat)}, am_sw K v dflt qs → ∃ t, K t ∧ ∀ K' : Nat → Prop, K' t → am_sw K' v dflt qs
  | [], h => ⟨dflt, h, fun _ h' => h'⟩
  | q :: qs, h => by
    by_cases hv : v = q.1
    · exact ⟨q.2, h.1 hv, fun _ h' => ⟨fun _ => h', fun hn => absurd hv hn⟩⟩
    · obtain ⟨t, h1, h2⟩ := am_sw_rd (h.2 hv)
      exact ⟨t, h1, fun K' h' => ⟨fun hy => absurd hy hv, fun _ => h2 K' h'⟩⟩
theorem am_rd_k {sw : Nat → Nat × List (Int × Nat)} {d : Nat} {ai : am_I} {pc : Nat} {ls st : List am_V} {M : am_M} {K : Nat → List am_V → List am_V → am_M → Prop} {C : Nat → List am_V → am_M → (List am_V → am_M → Prop) → Prop} {Q : List am_V → am_M → Prop} {pc' : Nat} {ls' st' : List am_V} {M' : am_M} (h : K pc' ls' st' M') (hb : ∀ K' C' Q', K' pc' ls' st' M' → am_body sw d ai pc ls st M K' C' Q') (hg : M.1 ≤ M'.1 ∧ M.2.1 ≤ M'.2.1 := by exact ⟨Int.le_refl _, Int.le_refl _⟩) : am_Rd sw d ai pc ls st M K C Q := Or.inl ⟨pc', ls', st', M', h, hg, hb⟩
theorem am_rd_q {sw : Nat → Nat × List (Int × Nat)} {d : Nat} {ai : am_I} {pc : Nat} {ls st : List am_V} {M : am_M} {K : Nat → List am_V → List am_V → am_M → Prop} {C : Nat → List am_V → am_M → (List am_V → am_M → Prop) → Prop} {Q : List am_V → am_M → Prop} {r : List am_V} (h : Q r M) (hb : ∀ K' C' Q', Q' r M → am_body sw d ai pc ls st M K' C' Q') : am_Rd sw d ai pc ls st M K C Q := Or.inr (Or.inr ⟨r, h, hb⟩)
theorem am_rd_c {sw : Nat → Nat × List (Int × Nat)} {d : Nat} {ai : am_I} {pc : Nat} {ls st : List am_V} {M : am_M} {K : Nat → List am_V → List am_V → am_M → Prop} {C : Nat → List am_V → am_M → (List am_V → am_M → Prop) → Prop} {Q : List am_V → am_M → Prop} {mi : Nat} {args rest : List am_V} {pc' : Nat} (h : C mi args M (fun r M' => K pc' ls (r ++ rest) M')) (hb : ∀ K' C' Q', C' mi args M (fun r M' => K' pc' ls (r ++ rest) M') → am_body sw d ai pc ls st M K' C' Q') : am_Rd sw d ai pc ls st M K C Q := Or.inr (Or.inl ⟨mi, args, rest, pc', h, hb⟩)
theorem am_bif {b : Bool} {P : Prop} (h : bif b then P else False) : b = true ∧ P := by
  cases b
  · exact h.elim
  · exact ⟨rfl, h⟩
theorem am_bif' {b : Bool} {P : Prop} (hb : b = true) (h : P) : bif b then P else False := by
  subst hb; exact h
set_option maxHeartbeats 4000000 in
set_option maxRecDepth 20000 in
theorem am_rd {sw : Nat → Nat × List (Int × Nat)} {d : Nat} {ai : am_I} {pc : Nat} {ls st : List am_V} {M : am_M} {K : Nat → List am_V → List am_V → am_M → Prop} {C : Nat → List am_V → am_M → (List am_V → am_M → Prop) → Prop} {Q : List am_V → am_M → Prop} (h : am_body sw d ai pc ls st M K C Q) : am_Rd sw d ai pc ls st M K C Q := by
  obtain ⟨op, x, y, z, w⟩ := ai
  unfold am_body at h
  dsimp only at h
  split at h
  all_goals first
    | exact am_rd_k h (fun _ _ _ k => k)
    | exact am_rd_k h (fun _ _ _ k => k) (by show M.1 ≤ M.1 + 1 ∧ M.2.1 ≤ M.2.1 + (z : Int); omega)
    | exact h.elim
    | (split at h
       all_goals first
        | exact h.elim
        | exact am_rd_k h (fun _ _ _ k => k)
        | exact am_rd_q h (fun _ _ _ k => k)
        | exact am_rd_q h.2 (fun _ _ _ k => ⟨h.1, k⟩)
        | exact am_rd_k h.2 (fun _ _ _ k => ⟨h.1, k⟩)
        | exact am_rd_k h.2.2 (fun _ _ _ k => ⟨h.1, h.2.1, k⟩)
        | exact am_rd_k h.2.2 (fun _ _ _ k => ⟨h.1, h.2.1, k⟩) (by have h0 := h.1; exact ⟨Int.le_add_one (Int.le_refl _), Int.le_add_of_nonneg_right h0⟩)
        | exact am_rd_k h.2.2.2 (fun _ _ _ k => ⟨h.1, h.2.1, h.2.2.1, k⟩)
        | exact am_rd_k h.2.2.2.2 (fun _ _ _ k => ⟨h.1, h.2.1, h.2.2.1, h.2.2.2.1, k⟩)
        | (rename_i heq; exact am_rd_k h (fun _ _ _ k => by unfold am_body; dsimp only; rw [heq]; exact k))
        | (rename_i a s
           by_cases hc : am_cond x a 0
           · exact am_rd_k (h.1 hc) (fun _ _ _ k => ⟨fun _ => k, fun hn => absurd hc hn⟩)
           · exact am_rd_k (h.2 hc) (fun _ _ _ k => ⟨fun hy => absurd hy hc, fun _ => k⟩))
        | (rename_i b a s
           by_cases hc : am_cond x a b
           · exact am_rd_k (h.1 hc) (fun _ _ _ k => ⟨fun _ => k, fun hn => absurd hc hn⟩)
           · exact am_rd_k (h.2 hc) (fun _ _ _ k => ⟨fun hy => absurd hy hc, fun _ => k⟩))
        | (rename_i a s
           by_cases hc : a = -1
           · exact am_rd_k (h.2 hc) (fun _ _ _ k => ⟨fun hn => absurd hc hn, fun _ => k⟩)
           · exact am_rd_k (h.1 hc) (fun _ _ _ k => ⟨fun _ => k, fun hy => absurd hy hc⟩))
        | (obtain ⟨t, h1, h2⟩ := am_sw_rd h
           exact am_rd_k h1 (fun K' _ _ k => h2 _ k))
        | (obtain ⟨h1, h2, h3⟩ := am_bif h
           exact am_rd_k h3 (fun _ _ _ k => am_bif' h1 ⟨h2, k⟩))
        | (obtain ⟨h0, h⟩ := h
           obtain ⟨h1, h2⟩ := am_bif h
           exact am_rd_k h2 (fun _ _ _ k => ⟨h0, am_bif' h1 k⟩))
        | (obtain ⟨h0, h00, h⟩ := h
           obtain ⟨h1, h2⟩ := am_bif h
           exact am_rd_k h2 (fun _ _ _ k => ⟨h0, h00, am_bif' h1 k⟩))
        | (obtain ⟨h0, h00, g0, h⟩ := h
           obtain ⟨h1, h2⟩ := am_bif h
           exact am_rd_k h2 (fun _ _ _ k => ⟨h0, h00, g0, am_bif' h1 k⟩) ⟨Int.le_add_one (Int.le_refl _), Int.le_add_of_nonneg_right g0⟩)
        | (obtain ⟨h0, h00, g1, g2, h⟩ := h
           obtain ⟨h1, h2⟩ := am_bif h
           exact am_rd_k h2 (fun _ _ _ k => ⟨h0, h00, g1, g2, am_bif' h1 k⟩))
        | (obtain ⟨h0, h00, g1, g2, g3, g4, g5, g6, h⟩ := h
           obtain ⟨h1, h2⟩ := am_bif h
           exact am_rd_k h2 (fun _ _ _ k => ⟨h0, h00, g1, g2, g3, g4, g5, g6, am_bif' h1 k⟩)))
    | (obtain ⟨h1, h2⟩ := am_bif h
       exact am_rd_c h2 (fun _ _ _ k => am_bif' h1 k))
    | (obtain ⟨h1, h2⟩ := am_bif h
       split at h2
       · rename_i a heq
         exact am_rd_c h2.2 (fun _ _ _ k => am_bif' h1 (by rw [heq]; exact ⟨h2.1, k⟩))
       · exact h2.elim)
/-- the machine's run, with at most n instructions on the longest road, d calls deep -/
def am_wp : Nat → Nat → List (Nat × List (Nat × am_I)) → Nat → List am_V → List am_V → am_M → (List am_V → am_M → Prop) → Prop
  | 0, _, _, _, _, _, _, _ => False
  | n + 1, d, c, pc, ls, st, M, Q => am_body am_swt d (am_lk c pc) pc ls st M (fun pc' ls' st' M' => am_wp n d c pc' ls' st' M' Q) (fun mi args M0 Q0 => 0 < d ∧ (bif Nat.ble (am_lay args).length (am_mx mi) then am_wp n (d - 1) (am_cs mi) 0 (am_ent (am_mx mi) args) [] M0 Q0 else False)) Q
def am_WP (d : Nat) (c : List (Nat × List (Nat × am_I))) (pc : Nat) (ls st : List am_V) (M : am_M) (Q : List am_V → am_M → Prop) : Prop := ∃ n, am_wp n d c pc ls st M Q
/-- a call -/
def am_CL (d mi : Nat) (args : List am_V) (M : am_M) (Q : List am_V → am_M → Prop) : Prop := am_WP d (am_cs mi) 0 (am_ent (am_mx mi) args) [] M Q
def am_CC (d mi : Nat) (args : List am_V) (M : am_M) (Q : List am_V → am_M → Prop) : Prop := 0 < d ∧ (bif Nat.ble (am_lay args).length (am_mx mi) then am_CL (d - 1) mi args M Q else False)
theorem am_wp_more : ∀ (n : Nat) {k d : Nat} {c : List (Nat × List (Nat × am_I))} {pc : Nat} {ls st : List am_V} {M : am_M} {Q Q' : List am_V → am_M → Prop}, n ≤ k → (∀ r M', Q r M' → Q' r M') → am_wp n d c pc ls st M Q → am_wp k d c pc ls st M Q'
  | 0, _, _, _, _, _, _, _, _, _, _, _, h => h.elim
  | n + 1, k, d, c, pc, ls, st, M, Q, Q', hk, hQ, h => by
    obtain ⟨k, rfl⟩ : ∃ j, k = j + 1 := ⟨k - 1, by omega⟩
    have hk : n ≤ k := by omega
    rcases am_rd h with ⟨pc', ls', st', M', h1, -, h2⟩ | ⟨mi, args, rest, pc', h1, h2⟩ | ⟨r, h1, h2⟩
    · exact h2 _ _ _ (am_wp_more n hk hQ h1)
    · exact h2 _ _ _ ⟨h1.1, am_bif' (am_bif h1.2).1 (am_wp_more n hk (fun r M' h => am_wp_more n hk hQ h) (am_bif h1.2).2)⟩
    · exact h2 _ _ _ (hQ _ _ h1)
theorem am_wp_det : ∀ (n : Nat) {d : Nat} {c : List (Nat × List (Nat × am_I))} {pc : Nat} {ls st : List am_V} {M : am_M} {Q : List am_V → am_M → Prop}, am_wp n d c pc ls st M Q → ∃ r M', Q r M' ∧ am_wp n d c pc ls st M (fun r' M'' => r' = r ∧ M'' = M')
  | 0, _, _, _, _, _, _, _, h => h.elim
  | n + 1, d, c, pc, ls, st, M, Q, h => by
    rcases am_rd h with ⟨pc', ls', st', M', h1, -, h2⟩ | ⟨mi, args, rest, pc', h1, h2⟩ | ⟨r, h1, h2⟩
    · obtain ⟨r, M2, hq, hw⟩ := am_wp_det n h1
      exact ⟨r, M2, hq, h2 _ _ _ hw⟩
    · obtain ⟨r1, M1, hq1, hw1⟩ := am_wp_det n (am_bif h1.2).2
      obtain ⟨r, M2, hq, hw⟩ := am_wp_det n hq1
      refine ⟨r, M2, hq, h2 _ _ _ ⟨h1.1, am_bif' (am_bif h1.2).1 (am_wp_more n (Nat.le_refl _) (fun r' M'' h => ?_) hw1)⟩⟩
      obtain ⟨rfl, rfl⟩ := h
      exact hw
    · exact ⟨r, M, h1, h2 _ _ _ ⟨rfl, rfl⟩⟩
theorem am_WP_mono {d : Nat} {c : List (Nat × List (Nat × am_I))} {pc : Nat} {ls st : List am_V} {M : am_M} {Q Q' : List am_V → am_M → Prop} (h : am_WP d c pc ls st M Q) (hQ : ∀ r M', Q r M' → Q' r M') : am_WP d c pc ls st M Q' := by
  obtain ⟨n, h⟩ := h
  exact ⟨n, am_wp_more n (Nat.le_refl _) hQ h⟩
theorem am_CL_mono {d mi : Nat} {args : List am_V} {M : am_M} {Q Q' : List am_V → am_M → Prop} (h : am_CL d mi args M Q) (hQ : ∀ r M', Q r M' → Q' r M') : am_CL d mi args M Q' := am_WP_mono h hQ
theorem am_step {d : Nat} {c : List (Nat × List (Nat × am_I))} {pc : Nat} {ls st : List am_V} {M : am_M} {Q : List am_V → am_M → Prop} (h : am_body am_swt d (am_lk c pc) pc ls st M (fun pc' ls' st' M' => am_WP d c pc' ls' st' M' Q) (am_CC d) Q) : am_WP d c pc ls st M Q := by
  rcases am_rd h with ⟨pc', ls', st', M', ⟨n, h1⟩, -, h2⟩ | ⟨mi, args, rest, pc', ⟨h0, h00⟩, h2⟩ | ⟨r, h1, h2⟩
  · exact ⟨n + 1, h2 _ _ _ h1⟩
  · obtain ⟨hb, n, h1⟩ := am_bif h00
    obtain ⟨r, M', ⟨k, hk⟩, hw⟩ := am_wp_det n h1
    refine ⟨max n k + 1, h2 _ _ _ ⟨h0, am_bif' hb (am_wp_more n (by omega) (fun r' M'' h => ?_) hw)⟩⟩
    obtain ⟨rfl, rfl⟩ := h
    exact am_wp_more k (by omega) (fun _ _ h => h) hk
  · exact ⟨1, h2 _ _ _ h1⟩
/-- the roads from a place on, up to the places of a list -/
def am_tr (d : Nat) (c : List (Nat × List (Nat × am_I))) (stop : List Nat) (Q : List am_V → am_M → Prop) : Nat → Nat → List am_V → List am_V → am_M → Prop
  | 0, pc, ls, st, M => am_WP d c pc ls st M Q
  | n + 1, pc, ls, st, M => bif stop.elem pc then am_WP d c pc ls st M Q else am_body am_swt d (am_lk c pc) pc ls st M (fun pc' ls' st' M' => am_tr d c stop Q n pc' ls' st' M') (am_CC d) Q
theorem am_tr_go {d : Nat} {c : List (Nat × List (Nat × am_I))} {stop : List Nat} {Q : List am_V → am_M → Prop} : ∀ {n pc : Nat} {ls st : List am_V} {M : am_M}, am_tr d c stop Q n pc ls st M → am_WP d c pc ls st M Q
  | 0, _, _, _, _, h => h
  | n + 1, pc, ls, st, M, h => by
    unfold am_tr at h
    cases hs : stop.elem pc
    · rw [hs] at h
      refine am_step ?_
      rcases am_rd h with ⟨pc', ls', st', M', h1, -, h2⟩ | ⟨mi, args, rest, pc', h1, h2⟩ | ⟨r, h1, h2⟩
      · exact h2 _ _ _ (am_tr_go h1)
      · exact h2 _ _ _ ⟨h1.1, am_bif' (am_bif h1.2).1 (am_CL_mono (am_bif h1.2).2 (fun _ _ h => am_tr_go h))⟩
      · exact h2 _ _ _ h1
    · rw [hs] at h
      exact h
/-- the roads from a place on, though it is in the list -/
def am_t1 (d : Nat) (c : List (Nat × List (Nat × am_I))) (stop : List Nat) (Q : List am_V → am_M → Prop) (n pc : Nat) (ls st : List am_V) (M : am_M) : Prop := am_body am_swt d (am_lk c pc) pc ls st M (fun pc' ls' st' M' => am_tr d c stop Q n pc' ls' st' M') (am_CC d) Q
theorem am_go {d : Nat} {c : List (Nat × List (Nat × am_I))} (stop : List Nat) (n : Nat) {Q : List am_V → am_M → Prop} {pc : Nat} {ls st : List am_V} {M : am_M} (h : am_t1 d c stop Q n pc ls st M) : am_WP d c pc ls st M Q := by
  refine am_step ?_
  rcases am_rd h with ⟨pc', ls', st', M', h1, -, h2⟩ | ⟨mi, args, rest, pc', h1, h2⟩ | ⟨r, h1, h2⟩
  · exact h2 _ _ _ (am_tr_go h1)
  · exact h2 _ _ _ ⟨h1.1, am_bif' (am_bif h1.2).1 (am_CL_mono (am_bif h1.2).2 (fun _ _ h => am_tr_go h))⟩
  · exact h2 _ _ _ h1
/-- memories grow -/
theorem am_wp_grow : ∀ (n : Nat) {d : Nat} {c : List (Nat × List (Nat × am_I))} {pc : Nat} {ls st : List am_V} {M : am_M} {Q : List am_V → am_M → Prop}, am_wp n d c pc ls st M Q → am_wp n d c pc ls st M (fun r M' => Q r M' ∧ M.1 ≤ M'.1 ∧ M.2.1 ≤ M'.2.1)
  | 0, _, _, _, _, _, _, _, h => h.elim
  | n + 1, d, c, pc, ls, st, M, Q, h => by
    rcases am_rd h with ⟨pc', ls', st', M', h1, hg, h2⟩ | ⟨mi, args, rest, pc', h1, h2⟩ | ⟨r, h1, h2⟩
    · exact h2 _ _ _ (am_wp_more n (Nat.le_refl _) (fun r M2 h => ⟨h.1, Int.le_trans hg.1 h.2.1, Int.le_trans hg.2 h.2.2⟩) (am_wp_grow n h1))
    · refine h2 _ _ _ ⟨h1.1, am_bif' (am_bif h1.2).1 (am_wp_more n (Nat.le_refl _) (fun r M' h => ?_) (am_wp_grow n (am_bif h1.2).2))⟩
      exact am_wp_more n (Nat.le_refl _) (fun r M2 h' => ⟨h'.1, Int.le_trans h.2.1 h'.2.1, Int.le_trans h.2.2 h'.2.2⟩) (am_wp_grow n h.1)
    · exact h2 _ _ _ ⟨h1, Int.le_refl _, Int.le_refl _⟩
theorem am_wp_end {n d : Nat} {c : List (Nat × List (Nat × am_I))} {pc : Nat} {ls st : List am_V} {M : am_M} {r : List am_V} {Me : am_M} (h : am_wp n d c pc ls st M (fun r' M' => r' = r ∧ M' = Me)) : M.1 ≤ Me.1 ∧ M.2.1 ≤ Me.2.1 := by
  obtain ⟨r', M', ⟨⟨-, rfl⟩, h2⟩, -⟩ := am_wp_det n (am_wp_grow n h)
  exact h2
