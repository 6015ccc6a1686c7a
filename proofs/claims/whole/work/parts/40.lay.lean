/-! WHAT LIES WHERE, AND FRAMES (printed by wip/tools/lay.py) -/
def nm_tyl : List (Nat × Int) := [(0, 19), (4, 17), (100, 6), (100, 30), (100, 6), (100, 6), (100, 8), (100, 8), (100, 8), (100, 8), (104, 6), (7, 5), (100, 6), (100, 6), (100, 8), (103, 2), (102, 2), (1, 3), (100, 18), (100, 64), (2, 17), (100, 6), (100, 288), (102, 36), (100, 36), (100, 6), (100, 8), (100, 8), (100, 2048), (100, 8), (3, 13), (100, 400), (100, 436), (100, 60), (6, 3), (100, 16), (105, 16), (7, 5), (100, 6), (100, 6), (100, 8), (7, 5), (100, 6), (100, 6), (100, 8), (7, 5), (100, 6), (100, 6), (100, 8), (7, 5), (100, 6), (100, 6), (100, 8), (7, 5), (100, 6), (100, 6), (100, 8), (7, 5), (100, 6), (100, 6), (100, 8), (7, 5), (100, 6), (100, 6), (100, 8), (7, 5), (100, 6), (100, 6), (100, 8), (7, 5), (100, 6), (100, 6), (100, 8), (7, 5), (100, 6), (100, 6), (100, 8), (7, 5), (100, 6), (100, 6), (100, 8), (7, 5), (100, 6), (100, 6), (100, 8), (7, 5), (100, 6), (100, 6), (100, 8), (7, 5), (100, 6), (100, 6), (100, 8), (7, 5), (100, 6), (100, 6), (100, 8), (7, 5), (100, 6), (100, 6), (100, 8), (6, 3), (100, 16), (105, 16), (7, 5), (100, 6), (100, 6), (100, 8), (7, 5), (100, 6), (100, 6), (100, 8), (7, 5), (100, 6), (100, 6), (100, 8), (7, 5), (100, 6), (100, 6), (100, 8), (7, 5), (100, 6), (100, 6), (100, 8), (7, 5), (100, 6), (100, 6), (100, 8), (7, 5), (100, 6), (100, 6), (100, 8), (7, 5), (100, 6), (100, 6), (100, 8), (7, 5), (100, 6), (100, 6), (100, 8), (7, 5), (100, 6), (100, 6), (100, 8), (7, 5), (100, 6), (100, 6), (100, 8), (7, 5), (100, 6), (100, 6), (100, 8), (7, 5), (100, 6), (100, 6), (100, 8), (7, 5), (100, 6), (100, 6), (100, 8), (7, 5), (100, 6), (100, 6), (100, 8), (7, 5), (100, 6), (100, 6), (100, 8), (7, 5), (100, 6), (100, 6), (100, 8), (7, 5), (100, 6), (100, 6), (100, 8), (7, 5), (100, 6), (100, 6), (100, 8), (7, 5), (100, 6), (100, 6), (100, 8), (100, 5), (101, 31), (4, 17), (100, 6), (100, 30), (100, 6), (100, 6), (100, 8), (100, 8), (100, 8), (100, 8), (104, 6), (7, 5), (100, 6), (100, 6), (100, 8), (4, 17), (100, 6), (100, 30), (100, 6), (100, 6), (100, 8), (100, 8), (100, 8), (100, 8), (104, 6), (7, 5), (100, 6), (100, 6), (100, 8), (8, 59), (100, 7), (100, 5510), (100, 11020), (102, 2), (100, 450), (100, 16), (100, 400), (100, 16), (100, 400), (100, 96), (100, 400), (100, 400), (100, 400), (100, 400), (101, 8), (101, 6), (101, 4), (101, 13), (101, 13), (101, 400), (100, 8), (100, 6), (100, 288), (102, 36), (100, 7), (100, 6), (100, 256), (100, 8), (101, 31), (101, 4), (100, 96), (100, 20)]
def nm_tyf (a : Int) : Nat × Int := nm_tyl.getD a.toNat (0, 0)
/-- slots that never change once they are made: references, and the rows of packed words -/
def nm_rfl : List (Int × Int × Int) := [(0, 0, 1), (0, 1, 15), (0, 2, 16), (0, 3, 17), (0, 4, 20), (0, 5, 30), (0, 6, 34), (0, 7, 101), (0, 8, 168), (0, 9, 172), (0, 10, 176), (0, 11, 180), (0, 12, 184), (0, 13, 185), (1, 1, 2), (1, 2, 3), (1, 3, 4), (1, 4, 5), (1, 5, 6), (1, 7, 7), (1, 8, 8), (1, 9, 9), (1, 14, 10), (1, 16, 11), (11, 2, 12), (11, 3, 13), (11, 4, 14), (15, 0, 186), (15, 1, 200), (17, 0, 1), (17, 1, 18), (17, 2, 19), (20, 0, 21), (20, 1, 1), (20, 2, 17), (20, 3, 22), (20, 4, 23), (20, 5, 24), (20, 6, 25), (20, 7, 26), (20, 8, 27), (20, 9, 28), (20, 10, 29), (30, 0, 31), (30, 9, 32), (30, 11, 33), (34, 1, 35), (34, 2, 36), (37, 2, 38), (37, 3, 39), (37, 4, 40), (41, 2, 42), (41, 3, 43), (41, 4, 44), (45, 2, 46), (45, 3, 47), (45, 4, 48), (49, 2, 50), (49, 3, 51), (49, 4, 52), (53, 2, 54), (53, 3, 55), (53, 4, 56), (57, 2, 58), (57, 3, 59), (57, 4, 60), (61, 2, 62), (61, 3, 63), (61, 4, 64), (65, 2, 66), (65, 3, 67), (65, 4, 68), (69, 2, 70), (69, 3, 71), (69, 4, 72), (73, 2, 74), (73, 3, 75), (73, 4, 76), (77, 2, 78), (77, 3, 79), (77, 4, 80), (81, 2, 82), (81, 3, 83), (81, 4, 84), (85, 2, 86), (85, 3, 87), (85, 4, 88), (89, 2, 90), (89, 3, 91), (89, 4, 92), (93, 2, 94), (93, 3, 95), (93, 4, 96), (97, 2, 98), (97, 3, 99), (97, 4, 100), (101, 1, 102), (101, 2, 103), (104, 2, 105), (104, 3, 106), (104, 4, 107), (108, 2, 109), (108, 3, 110), (108, 4, 111), (112, 2, 113), (112, 3, 114), (112, 4, 115), (116, 2, 117), (116, 3, 118), (116, 4, 119), (120, 2, 121), (120, 3, 122), (120, 4, 123), (124, 2, 125), (124, 3, 126), (124, 4, 127), (128, 2, 129), (128, 3, 130), (128, 4, 131), (132, 2, 133), (132, 3, 134), (132, 4, 135), (136, 2, 137), (136, 3, 138), (136, 4, 139), (140, 2, 141), (140, 3, 142), (140, 4, 143), (144, 2, 145), (144, 3, 146), (144, 4, 147), (148, 2, 149), (148, 3, 150), (148, 4, 151), (152, 2, 153), (152, 3, 154), (152, 4, 155), (156, 2, 157), (156, 3, 158), (156, 4, 159), (160, 2, 161), (160, 3, 162), (160, 4, 163), (164, 2, 165), (164, 3, 166), (164, 4, 167), (168, 2, 169), (168, 3, 170), (168, 4, 171), (172, 2, 173), (172, 3, 174), (172, 4, 175), (176, 2, 177), (176, 3, 178), (176, 4, 179), (180, 2, 181), (180, 3, 182), (180, 4, 183), (186, 1, 187), (186, 2, 188), (186, 3, 189), (186, 4, 190), (186, 5, 191), (186, 7, 192), (186, 8, 193), (186, 9, 194), (186, 14, 195), (186, 16, 196), (196, 2, 197), (196, 3, 198), (196, 4, 199), (200, 1, 201), (200, 2, 202), (200, 3, 203), (200, 4, 204), (200, 5, 205), (200, 7, 206), (200, 8, 207), (200, 9, 208), (200, 14, 209), (200, 16, 210), (210, 2, 211), (210, 3, 212), (210, 4, 213), (214, 2, 215), (214, 3, 216), (214, 4, 217), (214, 5, 218), (214, 6, 219), (214, 7, 220), (214, 9, 221), (214, 10, 222), (214, 12, 223), (214, 22, 224), (214, 24, 225), (214, 25, 226), (214, 27, 227), (214, 28, 228), (214, 31, 229), (214, 32, 230), (214, 33, 231), (214, 35, 232), (214, 36, 233), (214, 37, 234), (214, 41, 235), (214, 42, 236), (214, 43, 237), (214, 44, 238), (214, 45, 239), (214, 46, 240), (214, 47, 241), (214, 48, 242), (214, 49, 243), (214, 50, 244), (214, 51, 245), (214, 57, 246), (229, 0, 446253554), (229, 1, 17171557), (229, 2, 278194), (229, 3, 525908), (229, 4, 71108), (229, 5, 647387314), (229, 6, 14982420), (229, 7, 441828), (230, 0, 14982420), (230, 1, 146885), (230, 2, 404362868), (230, 3, 284103), (230, 4, 647387314), (230, 5, 20593771), (231, 0, 13675699), (231, 1, 24282707), (231, 2, 526131), (231, 3, 67155), (244, 0, 263623), (244, 1, 147182), (244, 2, 553002600), (244, 3, 525939)]
/-- the Works -/
def nm_WL : List Int := [11, 37, 41, 45, 49, 53, 57, 61, 65, 69, 73, 77, 81, 85, 89, 93, 97, 104, 108, 112, 116, 120, 124, 128, 132, 136, 140, 144, 148, 152, 156, 160, 164, 168, 172, 176, 180, 196, 210]
def nm_Lay (M : am_M) : Prop := (∀ a, 0 ≤ a → a < 247 → M.2.2.1 a = nm_tyf a) ∧ (∀ q ∈ nm_rfl, am_gt M q.1 q.2.1 = q.2.2) ∧ 247 ≤ M.1 ∧ (∀ k : Nat, k < 39 → M.2.2.1 (-10 - (k : Int)) = (111, ((am_tx.getD k []).length : Int)) ∧ ∀ i : Nat, i < (am_tx.getD k []).length → am_gt M (-10 - (k : Int)) (i : Int) = (am_tx.getD k []).getD i 0)
abbrev nm_Rg : Type := List (Int × Int × Int)
def nm_in (f : nm_Rg) (a i : Int) : Bool := f.any (fun q => decide (q.1 = a) && (decide (q.2.1 ≤ i) && decide (i < q.2.2)))
/-- at most n cells and s slots are new, and nothing that was there has changed but within f -/
def nm_Fg (n s : Int) (f : nm_Rg) (M M' : am_M) : Prop := M.1 ≤ M'.1 ∧ M'.1 ≤ M.1 + n ∧ M'.2.1 ≤ M.2.1 + s ∧ (∀ a, a < M.1 → M'.2.2.1 a = M.2.2.1 a) ∧ ∀ a i, a < M.1 → nm_in f a i = false → am_gt M' a i = am_gt M a i
abbrev nm_Fr (f : nm_Rg) (M M' : am_M) : Prop := nm_Fg 0 0 f M M'
def nm_dj (f g : nm_Rg) : Bool := f.all (fun p => g.all (fun q => !(decide (p.1 = q.1)) || (decide (p.2.2 ≤ q.2.1) || decide (q.2.2 ≤ p.2.1))))
def nm_sb (f g : nm_Rg) : Bool := f.all (fun p => g.any (fun q => decide (p.1 = q.1) && (decide (q.2.1 ≤ p.2.1) && decide (p.2.2 ≤ q.2.2))))
def nm_no (f : nm_Rg) (a : Int) : Bool := f.all (fun p => !(decide (p.1 = a)))
/-- a frame that leaves the layout as it is: no slot of it, no text -/
def nm_lk (f : nm_Rg) : Bool := f.all (fun p => decide (0 ≤ p.1) && nm_rfl.all (fun q => !(decide (p.1 = q.1)) || (decide (q.2.1 < p.2.1) || decide (p.2.2 ≤ q.2.1))))
theorem nm_in_iff {f : nm_Rg} {a i : Int} : nm_in f a i = true ↔ ∃ q ∈ f, q.1 = a ∧ q.2.1 ≤ i ∧ i < q.2.2 := by
  unfold nm_in
  rw [List.any_eq_true]
  constructor
  · rintro ⟨q, hq, h⟩
    simp only [Bool.and_eq_true, decide_eq_true_eq] at h
    exact ⟨q, hq, h.1, h.2.1, h.2.2⟩
  · rintro ⟨q, hq, h1, h2, h3⟩
    exact ⟨q, hq, by simp only [Bool.and_eq_true, decide_eq_true_eq]; exact ⟨h1, h2, h3⟩⟩
theorem nm_in_mem {f : nm_Rg} {a i : Int} {q : Int × Int × Int} (hq : q ∈ f) (h1 : q.1 = a) (h2 : q.2.1 ≤ i) (h3 : i < q.2.2) : nm_in f a i = true := nm_in_iff.mpr ⟨q, hq, h1, h2, h3⟩
theorem nm_in_no {f : nm_Rg} {a i : Int} (h : nm_no f a = true) : nm_in f a i = false := by
  rw [Bool.eq_false_iff]
  intro hi
  obtain ⟨q, hq, h1, -⟩ := nm_in_iff.mp hi
  have := List.all_eq_true.mp h q hq
  simp only [Bool.not_eq_true', decide_eq_false_iff_not] at this
  exact this h1
theorem nm_in_dj {f g : nm_Rg} {a i : Int} (h : nm_dj f g = true) (hg : nm_in g a i = true) : nm_in f a i = false := by
  rw [Bool.eq_false_iff]
  intro hi
  obtain ⟨p, hp, h1, h2, h3⟩ := nm_in_iff.mp hi
  obtain ⟨q, hq, h4, h5, h6⟩ := nm_in_iff.mp hg
  have := List.all_eq_true.mp (List.all_eq_true.mp h p hp) q hq
  simp only [Bool.or_eq_true, Bool.not_eq_true', decide_eq_false_iff_not, decide_eq_true_eq] at this
  omega
theorem nm_in_sb {f g : nm_Rg} {a i : Int} (h : nm_sb f g = true) (hg : nm_in g a i = false) : nm_in f a i = false := by
  rw [Bool.eq_false_iff]
  intro hi
  obtain ⟨p, hp, h1, h2, h3⟩ := nm_in_iff.mp hi
  obtain ⟨q, hq, h4⟩ := List.any_eq_true.mp (List.all_eq_true.mp h p hp)
  simp only [Bool.and_eq_true, decide_eq_true_eq] at h4
  rw [nm_in_mem hq (by omega) (by omega) (by omega)] at hg
  cases hg
theorem nm_in_app {f g : nm_Rg} {a i : Int} : nm_in (f ++ g) a i = (nm_in f a i || nm_in g a i) := List.any_append
theorem nm_Fg_refl (f : nm_Rg) (M : am_M) : nm_Fr f M M := ⟨Int.le_refl _, by omega, by omega, fun _ _ => rfl, fun _ _ _ _ => rfl⟩
theorem nm_Fg_trans {n s n' s' : Int} {f : nm_Rg} {M M' M'' : am_M} (h : nm_Fg n s f M M') (h' : nm_Fg n' s' f M' M'') : nm_Fg (n + n') (s + s') f M M'' := by
  obtain ⟨a1, a2, a3, a4, a5⟩ := h
  obtain ⟨b1, b2, b3, b4, b5⟩ := h'
  exact ⟨by omega, by omega, by omega, fun a ha => (b4 a (by omega)).trans (a4 a ha), fun a i ha hi => (b5 a i (by omega) hi).trans (a5 a i ha hi)⟩
theorem nm_Fr_trans {f : nm_Rg} {M M' M'' : am_M} (h : nm_Fr f M M') (h' : nm_Fr f M' M'') : nm_Fr f M M'' := nm_Fg_trans h h'
theorem nm_Fg_sub {n s n' s' : Int} {f g : nm_Rg} {M M' : am_M} (h : nm_Fg n s f M M') (hs : nm_sb f g = true) (hn : n ≤ n') (hs' : s ≤ s') : nm_Fg n' s' g M M' := by
  obtain ⟨a1, a2, a3, a4, a5⟩ := h
  exact ⟨a1, by omega, by omega, a4, fun a i ha hi => a5 a i ha (nm_in_sb hs hi)⟩
theorem nm_Fr_sub {f g : nm_Rg} {M M' : am_M} (h : nm_Fr f M M') (hs : nm_sb f g = true) : nm_Fr g M M' := nm_Fg_sub h hs (Int.le_refl _) (Int.le_refl _)
theorem nm_Fr_appl {f g : nm_Rg} {n s : Int} {M M' : am_M} (h : nm_Fg n s f M M') : nm_Fg n s (f ++ g) M M' := by
  obtain ⟨a1, a2, a3, a4, a5⟩ := h
  exact ⟨a1, a2, a3, a4, fun a i ha hi => a5 a i ha (by rw [nm_in_app, Bool.or_eq_false_iff] at hi; exact hi.1)⟩
theorem nm_Fr_appr {f g : nm_Rg} {n s : Int} {M M' : am_M} (h : nm_Fg n s g M M') : nm_Fg n s (f ++ g) M M' := by
  obtain ⟨a1, a2, a3, a4, a5⟩ := h
  exact ⟨a1, a2, a3, a4, fun a i ha hi => a5 a i ha (by rw [nm_in_app, Bool.or_eq_false_iff] at hi; exact hi.2)⟩
theorem nm_gt_st (M : am_M) (a i v b j : Int) : am_gt (am_st M a i v) b j = if b = a ∧ j = i then v else am_gt M b j := rfl
theorem nm_gt_cp (M : am_M) (a i b j n c k : Int) : am_gt (am_cp M a i b j n) c k = if c = b ∧ j ≤ k ∧ k < j + n then am_gt M a (k - j + i) else am_gt M c k := rfl
theorem nm_kd_cp (M : am_M) (a i b j n c : Int) : am_kd (am_cp M a i b j n) c = am_kd M c := rfl
theorem nm_ln_cp (M : am_M) (a i b j n c : Int) : am_ln (am_cp M a i b j n) c = am_ln M c := rfl
theorem nm_Fr_st {n s : Int} {f : nm_Rg} {M M' : am_M} {a i v : Int} (h : nm_Fg n s f M M') (hi : nm_in f a i = true) : nm_Fg n s f M (am_st M' a i v) := by
  obtain ⟨a1, a2, a3, a4, a5⟩ := h
  refine ⟨a1, a2, a3, a4, fun b j hb hj => ?_⟩
  rw [nm_gt_st, if_neg]
  · exact a5 b j hb hj
  · rintro ⟨rfl, rfl⟩
    rw [hi] at hj; cases hj
theorem nm_Fr_cp {n s : Int} {f : nm_Rg} {M M' : am_M} {a i b j m : Int} (h : nm_Fg n s f M M') (hi : ∀ k, j ≤ k → k < j + m → nm_in f b k = true) : nm_Fg n s f M (am_cp M' a i b j m) := by
  obtain ⟨a1, a2, a3, a4, a5⟩ := h
  refine ⟨a1, a2, a3, a4, fun c k hb hk => ?_⟩
  rw [nm_gt_cp, if_neg]
  · exact a5 c k hb hk
  · rintro ⟨rfl, h1, h2⟩
    rw [hi k h1 h2] at hk; cases hk
theorem nm_gt_fr {n s : Int} {f : nm_Rg} {M M' : am_M} {a i : Int} (h : nm_Fg n s f M M') (ha : a < M.1) (hi : nm_in f a i = false) : am_gt M' a i = am_gt M a i := h.2.2.2.2 a i ha hi
theorem nm_gt_frn {n s : Int} {f : nm_Rg} {M M' : am_M} {a i : Int} (h : nm_Fg n s f M M') (hL : nm_Lay M) (ha : a < 247) (hi : nm_no f a = true) : am_gt M' a i = am_gt M a i := h.2.2.2.2 a i (by have := hL.2.2.1; omega) (nm_in_no hi)
theorem nm_gt_frd {n s : Int} {f g : nm_Rg} {M M' : am_M} {a i : Int} (h : nm_Fg n s f M M') (hL : nm_Lay M) (ha : a < 247) (hi : nm_dj f g = true) (hg : nm_in g a i = true) : am_gt M' a i = am_gt M a i := h.2.2.2.2 a i (by have := hL.2.2.1; omega) (nm_in_dj hi hg)
theorem nm_Lay_fr {n s : Int} {f : nm_Rg} {M M' : am_M} (hL : nm_Lay M) (h : nm_Fg n s f M M') (hk : nm_lk f = true) : nm_Lay M' := by
  obtain ⟨a1, a2, a3, a4, a5⟩ := h
  obtain ⟨l1, l2, l3, l4⟩ := hL
  have hneg : ∀ a i : Int, a < 0 → nm_in f a i = false := by
    intro a i ha
    rw [Bool.eq_false_iff]
    intro hi
    obtain ⟨p, hp, h1, -⟩ := nm_in_iff.mp hi
    have := List.all_eq_true.mp hk p hp
    rw [Bool.and_eq_true] at this
    have := of_decide_eq_true this.1
    omega
  have hrf : ∀ q ∈ nm_rfl, nm_in f q.1 q.2.1 = false := by
    intro q hq
    rw [Bool.eq_false_iff]
    intro hi
    obtain ⟨p, hp, h1, h2, h3⟩ := nm_in_iff.mp hi
    have := List.all_eq_true.mp hk p hp
    rw [Bool.and_eq_true] at this
    have := List.all_eq_true.mp this.2 q hq
    simp only [Bool.or_eq_true, Bool.not_eq_true', decide_eq_false_iff_not, decide_eq_true_eq] at this
    omega
  refine ⟨fun a h0 h1 => (a4 a (by omega)).trans (l1 a h0 h1), fun q hq => ?_, by omega, fun k hk' => ⟨(a4 _ (by omega)).trans (l4 k hk').1, fun i hi => (a5 _ _ (by omega) (hneg _ _ (by omega))).trans ((l4 k hk').2 i hi)⟩⟩
  have hlt : q.1 < 247 := by
    have : nm_rfl.all (fun q => decide (q.1 < 247)) = true := by decide +kernel
    exact of_decide_eq_true (List.all_eq_true.mp this q hq)
  rw [a5 _ _ (by omega) (hrf q hq)]
  exact l2 q hq
theorem nm_Lay_st {M : am_M} {a i v : Int} (hL : nm_Lay M) (hk : nm_lk [(a, i, i + 1)] = true) : nm_Lay (am_st M a i v) :=
  nm_Lay_fr hL (nm_Fr_st (nm_Fg_refl _ M) (nm_in_mem (List.mem_singleton.mpr rfl) rfl (Int.le_refl _) (show i < i + 1 by omega))) hk
theorem nm_lk_app {f g : nm_Rg} (h : nm_lk f = true) (h' : nm_lk g = true) : nm_lk (f ++ g) = true := by
  unfold nm_lk at *; rw [List.all_append, h, h']; rfl
theorem nm_no_app {f g : nm_Rg} {a : Int} (h : nm_no f a = true) (h' : nm_no g a = true) : nm_no (f ++ g) a = true := by
  unfold nm_no at *; rw [List.all_append, h, h']; rfl
theorem nm_dj_appl {f g k : nm_Rg} (h : nm_dj f k = true) (h' : nm_dj g k = true) : nm_dj (f ++ g) k = true := by
  unfold nm_dj at *; rw [List.all_append, h, h']; rfl
theorem nm_rf {M : am_M} (hL : nm_Lay M) (k : Nat) (q : Int × Int × Int) (hk : nm_rfl[k]? = some q) : am_gt M q.1 q.2.1 = q.2.2 := hL.2.1 q (List.mem_of_getElem? hk)
/-- the slots of a Works that change -/
def nm_Wg (w : Int) : nm_Rg := [(w, 0, 2), (w + 1, 0, 6), (w + 2, 0, 6), (w + 3, 0, 8)]
theorem nm_Wall {P : Int → Bool} (h : nm_WL.all P = true) {w : Int} (hw : w ∈ nm_WL) : P w = true := List.all_eq_true.mp h w hw
theorem nm_Wlk {w : Int} (hw : w ∈ nm_WL) : nm_lk (nm_Wg w) = true := nm_Wall (P := fun w => nm_lk (nm_Wg w)) (by decide +kernel) hw
theorem nm_Wb {w : Int} (hw : w ∈ nm_WL) : 0 ≤ w ∧ w + 3 < 247 := of_decide_eq_true (nm_Wall (P := fun w => decide (0 ≤ w ∧ w + 3 < 247)) (by decide +kernel) hw)
theorem nm_Wty {w : Int} (hw : w ∈ nm_WL) : nm_tyf w = (7, 5) ∧ nm_tyf (w + 1) = (100, 6) ∧ nm_tyf (w + 2) = (100, 6) ∧ nm_tyf (w + 3) = (100, 8) := of_decide_eq_true (nm_Wall (P := fun w => decide (nm_tyf w = (7, 5) ∧ nm_tyf (w + 1) = (100, 6) ∧ nm_tyf (w + 2) = (100, 6) ∧ nm_tyf (w + 3) = (100, 8))) (by decide +kernel) hw)
theorem nm_Wrf {w : Int} (hw : w ∈ nm_WL) : (w, 2, w + 1) ∈ nm_rfl ∧ (w, 3, w + 2) ∈ nm_rfl ∧ (w, 4, w + 3) ∈ nm_rfl := of_decide_eq_true (nm_Wall (P := fun w => decide ((w, 2, w + 1) ∈ nm_rfl ∧ (w, 3, w + 2) ∈ nm_rfl ∧ (w, 4, w + 3) ∈ nm_rfl)) (by decide +kernel) hw)
theorem nm_Wno {w : Int} (k c : Int) (h : nm_WL.all (fun w => decide (w + k ≠ c)) = true) (hw : w ∈ nm_WL) : w + k ≠ c := of_decide_eq_true (nm_Wall h hw)
theorem nm_Wty0 {M : am_M} {w : Int} (hL : nm_Lay M) (hw : w ∈ nm_WL) : M.2.2.1 w = (7, 5) := (hL.1 w (nm_Wb hw).1 (by have := nm_Wb hw; omega)).trans (nm_Wty hw).1
theorem nm_Wty1 {M : am_M} {w : Int} (hL : nm_Lay M) (hw : w ∈ nm_WL) : M.2.2.1 (w + 1) = (100, 6) := (hL.1 (w + 1) (by have := nm_Wb hw; omega) (by have := nm_Wb hw; omega)).trans (nm_Wty hw).2.1
theorem nm_Wty2 {M : am_M} {w : Int} (hL : nm_Lay M) (hw : w ∈ nm_WL) : M.2.2.1 (w + 2) = (100, 6) := (hL.1 (w + 2) (by have := nm_Wb hw; omega) (by have := nm_Wb hw; omega)).trans (nm_Wty hw).2.2.1
theorem nm_Wty3 {M : am_M} {w : Int} (hL : nm_Lay M) (hw : w ∈ nm_WL) : M.2.2.1 (w + 3) = (100, 8) := (hL.1 (w + 3) (by have := nm_Wb hw; omega) (by have := nm_Wb hw; omega)).trans (nm_Wty hw).2.2.2
theorem nm_Wk {M : am_M} {w : Int} (hL : nm_Lay M) (hw : w ∈ nm_WL) : am_kd M w = 7 := congrArg Prod.fst (nm_Wty0 hL hw)
theorem nm_Wk1 {M : am_M} {w : Int} (hL : nm_Lay M) (hw : w ∈ nm_WL) : am_kd M (w + 1) = 100 := congrArg Prod.fst (nm_Wty1 hL hw)
theorem nm_Wk2 {M : am_M} {w : Int} (hL : nm_Lay M) (hw : w ∈ nm_WL) : am_kd M (w + 2) = 100 := congrArg Prod.fst (nm_Wty2 hL hw)
theorem nm_Wk3 {M : am_M} {w : Int} (hL : nm_Lay M) (hw : w ∈ nm_WL) : am_kd M (w + 3) = 100 := congrArg Prod.fst (nm_Wty3 hL hw)
theorem nm_Wl1 {M : am_M} {w : Int} (hL : nm_Lay M) (hw : w ∈ nm_WL) : am_ln M (w + 1) = 6 := congrArg Prod.snd (nm_Wty1 hL hw)
theorem nm_Wl2 {M : am_M} {w : Int} (hL : nm_Lay M) (hw : w ∈ nm_WL) : am_ln M (w + 2) = 6 := congrArg Prod.snd (nm_Wty2 hL hw)
theorem nm_Wl3 {M : am_M} {w : Int} (hL : nm_Lay M) (hw : w ∈ nm_WL) : am_ln M (w + 3) = 8 := congrArg Prod.snd (nm_Wty3 hL hw)
theorem nm_Wr2 {M : am_M} {w : Int} (hL : nm_Lay M) (hw : w ∈ nm_WL) : am_gt M w 2 = w + 1 := hL.2.1 _ (nm_Wrf hw).1
theorem nm_Wr3 {M : am_M} {w : Int} (hL : nm_Lay M) (hw : w ∈ nm_WL) : am_gt M w 3 = w + 2 := hL.2.1 _ (nm_Wrf hw).2.1
theorem nm_Wr4 {M : am_M} {w : Int} (hL : nm_Lay M) (hw : w ∈ nm_WL) : am_gt M w 4 = w + 3 := hL.2.1 _ (nm_Wrf hw).2.2

theorem nm_k0 {M : am_M} (hL : nm_Lay M) : am_kd M 0 = 0 := congrArg Prod.fst (hL.1 0 (by decide) (by decide))
theorem nm_k1 {M : am_M} (hL : nm_Lay M) : am_kd M 1 = 4 := congrArg Prod.fst (hL.1 1 (by decide) (by decide))
theorem nm_k2 {M : am_M} (hL : nm_Lay M) : am_kd M 2 = 100 := congrArg Prod.fst (hL.1 2 (by decide) (by decide))
theorem nm_l2 {M : am_M} (hL : nm_Lay M) : am_ln M 2 = 6 := congrArg Prod.snd (hL.1 2 (by decide) (by decide))
theorem nm_k3 {M : am_M} (hL : nm_Lay M) : am_kd M 3 = 100 := congrArg Prod.fst (hL.1 3 (by decide) (by decide))
theorem nm_l3 {M : am_M} (hL : nm_Lay M) : am_ln M 3 = 30 := congrArg Prod.snd (hL.1 3 (by decide) (by decide))
theorem nm_k4 {M : am_M} (hL : nm_Lay M) : am_kd M 4 = 100 := congrArg Prod.fst (hL.1 4 (by decide) (by decide))
theorem nm_l4 {M : am_M} (hL : nm_Lay M) : am_ln M 4 = 6 := congrArg Prod.snd (hL.1 4 (by decide) (by decide))
theorem nm_k5 {M : am_M} (hL : nm_Lay M) : am_kd M 5 = 100 := congrArg Prod.fst (hL.1 5 (by decide) (by decide))
theorem nm_l5 {M : am_M} (hL : nm_Lay M) : am_ln M 5 = 6 := congrArg Prod.snd (hL.1 5 (by decide) (by decide))
theorem nm_k6 {M : am_M} (hL : nm_Lay M) : am_kd M 6 = 100 := congrArg Prod.fst (hL.1 6 (by decide) (by decide))
theorem nm_l6 {M : am_M} (hL : nm_Lay M) : am_ln M 6 = 8 := congrArg Prod.snd (hL.1 6 (by decide) (by decide))
theorem nm_k7 {M : am_M} (hL : nm_Lay M) : am_kd M 7 = 100 := congrArg Prod.fst (hL.1 7 (by decide) (by decide))
theorem nm_l7 {M : am_M} (hL : nm_Lay M) : am_ln M 7 = 8 := congrArg Prod.snd (hL.1 7 (by decide) (by decide))
theorem nm_k8 {M : am_M} (hL : nm_Lay M) : am_kd M 8 = 100 := congrArg Prod.fst (hL.1 8 (by decide) (by decide))
theorem nm_l8 {M : am_M} (hL : nm_Lay M) : am_ln M 8 = 8 := congrArg Prod.snd (hL.1 8 (by decide) (by decide))
theorem nm_k9 {M : am_M} (hL : nm_Lay M) : am_kd M 9 = 100 := congrArg Prod.fst (hL.1 9 (by decide) (by decide))
theorem nm_l9 {M : am_M} (hL : nm_Lay M) : am_ln M 9 = 8 := congrArg Prod.snd (hL.1 9 (by decide) (by decide))
theorem nm_k10 {M : am_M} (hL : nm_Lay M) : am_kd M 10 = 104 := congrArg Prod.fst (hL.1 10 (by decide) (by decide))
theorem nm_l10 {M : am_M} (hL : nm_Lay M) : am_ln M 10 = 6 := congrArg Prod.snd (hL.1 10 (by decide) (by decide))
theorem nm_k11 {M : am_M} (hL : nm_Lay M) : am_kd M 11 = 7 := congrArg Prod.fst (hL.1 11 (by decide) (by decide))
theorem nm_k12 {M : am_M} (hL : nm_Lay M) : am_kd M 12 = 100 := congrArg Prod.fst (hL.1 12 (by decide) (by decide))
theorem nm_l12 {M : am_M} (hL : nm_Lay M) : am_ln M 12 = 6 := congrArg Prod.snd (hL.1 12 (by decide) (by decide))
theorem nm_k13 {M : am_M} (hL : nm_Lay M) : am_kd M 13 = 100 := congrArg Prod.fst (hL.1 13 (by decide) (by decide))
theorem nm_l13 {M : am_M} (hL : nm_Lay M) : am_ln M 13 = 6 := congrArg Prod.snd (hL.1 13 (by decide) (by decide))
theorem nm_k14 {M : am_M} (hL : nm_Lay M) : am_kd M 14 = 100 := congrArg Prod.fst (hL.1 14 (by decide) (by decide))
theorem nm_l14 {M : am_M} (hL : nm_Lay M) : am_ln M 14 = 8 := congrArg Prod.snd (hL.1 14 (by decide) (by decide))
theorem nm_k15 {M : am_M} (hL : nm_Lay M) : am_kd M 15 = 103 := congrArg Prod.fst (hL.1 15 (by decide) (by decide))
theorem nm_l15 {M : am_M} (hL : nm_Lay M) : am_ln M 15 = 2 := congrArg Prod.snd (hL.1 15 (by decide) (by decide))
theorem nm_k16 {M : am_M} (hL : nm_Lay M) : am_kd M 16 = 102 := congrArg Prod.fst (hL.1 16 (by decide) (by decide))
theorem nm_l16 {M : am_M} (hL : nm_Lay M) : am_ln M 16 = 2 := congrArg Prod.snd (hL.1 16 (by decide) (by decide))
theorem nm_k17 {M : am_M} (hL : nm_Lay M) : am_kd M 17 = 1 := congrArg Prod.fst (hL.1 17 (by decide) (by decide))
theorem nm_k18 {M : am_M} (hL : nm_Lay M) : am_kd M 18 = 100 := congrArg Prod.fst (hL.1 18 (by decide) (by decide))
theorem nm_l18 {M : am_M} (hL : nm_Lay M) : am_ln M 18 = 18 := congrArg Prod.snd (hL.1 18 (by decide) (by decide))
theorem nm_k19 {M : am_M} (hL : nm_Lay M) : am_kd M 19 = 100 := congrArg Prod.fst (hL.1 19 (by decide) (by decide))
theorem nm_l19 {M : am_M} (hL : nm_Lay M) : am_ln M 19 = 64 := congrArg Prod.snd (hL.1 19 (by decide) (by decide))
theorem nm_k20 {M : am_M} (hL : nm_Lay M) : am_kd M 20 = 2 := congrArg Prod.fst (hL.1 20 (by decide) (by decide))
theorem nm_k21 {M : am_M} (hL : nm_Lay M) : am_kd M 21 = 100 := congrArg Prod.fst (hL.1 21 (by decide) (by decide))
theorem nm_l21 {M : am_M} (hL : nm_Lay M) : am_ln M 21 = 6 := congrArg Prod.snd (hL.1 21 (by decide) (by decide))
theorem nm_k22 {M : am_M} (hL : nm_Lay M) : am_kd M 22 = 100 := congrArg Prod.fst (hL.1 22 (by decide) (by decide))
theorem nm_l22 {M : am_M} (hL : nm_Lay M) : am_ln M 22 = 288 := congrArg Prod.snd (hL.1 22 (by decide) (by decide))
theorem nm_k23 {M : am_M} (hL : nm_Lay M) : am_kd M 23 = 102 := congrArg Prod.fst (hL.1 23 (by decide) (by decide))
theorem nm_l23 {M : am_M} (hL : nm_Lay M) : am_ln M 23 = 36 := congrArg Prod.snd (hL.1 23 (by decide) (by decide))
theorem nm_k24 {M : am_M} (hL : nm_Lay M) : am_kd M 24 = 100 := congrArg Prod.fst (hL.1 24 (by decide) (by decide))
theorem nm_l24 {M : am_M} (hL : nm_Lay M) : am_ln M 24 = 36 := congrArg Prod.snd (hL.1 24 (by decide) (by decide))
theorem nm_k25 {M : am_M} (hL : nm_Lay M) : am_kd M 25 = 100 := congrArg Prod.fst (hL.1 25 (by decide) (by decide))
theorem nm_l25 {M : am_M} (hL : nm_Lay M) : am_ln M 25 = 6 := congrArg Prod.snd (hL.1 25 (by decide) (by decide))
theorem nm_k26 {M : am_M} (hL : nm_Lay M) : am_kd M 26 = 100 := congrArg Prod.fst (hL.1 26 (by decide) (by decide))
theorem nm_l26 {M : am_M} (hL : nm_Lay M) : am_ln M 26 = 8 := congrArg Prod.snd (hL.1 26 (by decide) (by decide))
theorem nm_k27 {M : am_M} (hL : nm_Lay M) : am_kd M 27 = 100 := congrArg Prod.fst (hL.1 27 (by decide) (by decide))
theorem nm_l27 {M : am_M} (hL : nm_Lay M) : am_ln M 27 = 8 := congrArg Prod.snd (hL.1 27 (by decide) (by decide))
theorem nm_k28 {M : am_M} (hL : nm_Lay M) : am_kd M 28 = 100 := congrArg Prod.fst (hL.1 28 (by decide) (by decide))
theorem nm_l28 {M : am_M} (hL : nm_Lay M) : am_ln M 28 = 2048 := congrArg Prod.snd (hL.1 28 (by decide) (by decide))
theorem nm_k29 {M : am_M} (hL : nm_Lay M) : am_kd M 29 = 100 := congrArg Prod.fst (hL.1 29 (by decide) (by decide))
theorem nm_l29 {M : am_M} (hL : nm_Lay M) : am_ln M 29 = 8 := congrArg Prod.snd (hL.1 29 (by decide) (by decide))
theorem nm_k30 {M : am_M} (hL : nm_Lay M) : am_kd M 30 = 3 := congrArg Prod.fst (hL.1 30 (by decide) (by decide))
theorem nm_k31 {M : am_M} (hL : nm_Lay M) : am_kd M 31 = 100 := congrArg Prod.fst (hL.1 31 (by decide) (by decide))
theorem nm_l31 {M : am_M} (hL : nm_Lay M) : am_ln M 31 = 400 := congrArg Prod.snd (hL.1 31 (by decide) (by decide))
theorem nm_k32 {M : am_M} (hL : nm_Lay M) : am_kd M 32 = 100 := congrArg Prod.fst (hL.1 32 (by decide) (by decide))
theorem nm_l32 {M : am_M} (hL : nm_Lay M) : am_ln M 32 = 436 := congrArg Prod.snd (hL.1 32 (by decide) (by decide))
theorem nm_k33 {M : am_M} (hL : nm_Lay M) : am_kd M 33 = 100 := congrArg Prod.fst (hL.1 33 (by decide) (by decide))
theorem nm_l33 {M : am_M} (hL : nm_Lay M) : am_ln M 33 = 60 := congrArg Prod.snd (hL.1 33 (by decide) (by decide))
theorem nm_k34 {M : am_M} (hL : nm_Lay M) : am_kd M 34 = 6 := congrArg Prod.fst (hL.1 34 (by decide) (by decide))
theorem nm_k35 {M : am_M} (hL : nm_Lay M) : am_kd M 35 = 100 := congrArg Prod.fst (hL.1 35 (by decide) (by decide))
theorem nm_l35 {M : am_M} (hL : nm_Lay M) : am_ln M 35 = 16 := congrArg Prod.snd (hL.1 35 (by decide) (by decide))
theorem nm_k36 {M : am_M} (hL : nm_Lay M) : am_kd M 36 = 105 := congrArg Prod.fst (hL.1 36 (by decide) (by decide))
theorem nm_l36 {M : am_M} (hL : nm_Lay M) : am_ln M 36 = 16 := congrArg Prod.snd (hL.1 36 (by decide) (by decide))
theorem nm_k101 {M : am_M} (hL : nm_Lay M) : am_kd M 101 = 6 := congrArg Prod.fst (hL.1 101 (by decide) (by decide))
theorem nm_k102 {M : am_M} (hL : nm_Lay M) : am_kd M 102 = 100 := congrArg Prod.fst (hL.1 102 (by decide) (by decide))
theorem nm_l102 {M : am_M} (hL : nm_Lay M) : am_ln M 102 = 16 := congrArg Prod.snd (hL.1 102 (by decide) (by decide))
theorem nm_k103 {M : am_M} (hL : nm_Lay M) : am_kd M 103 = 105 := congrArg Prod.fst (hL.1 103 (by decide) (by decide))
theorem nm_l103 {M : am_M} (hL : nm_Lay M) : am_ln M 103 = 16 := congrArg Prod.snd (hL.1 103 (by decide) (by decide))
theorem nm_k168 {M : am_M} (hL : nm_Lay M) : am_kd M 168 = 7 := congrArg Prod.fst (hL.1 168 (by decide) (by decide))
theorem nm_k169 {M : am_M} (hL : nm_Lay M) : am_kd M 169 = 100 := congrArg Prod.fst (hL.1 169 (by decide) (by decide))
theorem nm_l169 {M : am_M} (hL : nm_Lay M) : am_ln M 169 = 6 := congrArg Prod.snd (hL.1 169 (by decide) (by decide))
theorem nm_k170 {M : am_M} (hL : nm_Lay M) : am_kd M 170 = 100 := congrArg Prod.fst (hL.1 170 (by decide) (by decide))
theorem nm_l170 {M : am_M} (hL : nm_Lay M) : am_ln M 170 = 6 := congrArg Prod.snd (hL.1 170 (by decide) (by decide))
theorem nm_k171 {M : am_M} (hL : nm_Lay M) : am_kd M 171 = 100 := congrArg Prod.fst (hL.1 171 (by decide) (by decide))
theorem nm_l171 {M : am_M} (hL : nm_Lay M) : am_ln M 171 = 8 := congrArg Prod.snd (hL.1 171 (by decide) (by decide))
theorem nm_k172 {M : am_M} (hL : nm_Lay M) : am_kd M 172 = 7 := congrArg Prod.fst (hL.1 172 (by decide) (by decide))
theorem nm_k173 {M : am_M} (hL : nm_Lay M) : am_kd M 173 = 100 := congrArg Prod.fst (hL.1 173 (by decide) (by decide))
theorem nm_l173 {M : am_M} (hL : nm_Lay M) : am_ln M 173 = 6 := congrArg Prod.snd (hL.1 173 (by decide) (by decide))
theorem nm_k174 {M : am_M} (hL : nm_Lay M) : am_kd M 174 = 100 := congrArg Prod.fst (hL.1 174 (by decide) (by decide))
theorem nm_l174 {M : am_M} (hL : nm_Lay M) : am_ln M 174 = 6 := congrArg Prod.snd (hL.1 174 (by decide) (by decide))
theorem nm_k175 {M : am_M} (hL : nm_Lay M) : am_kd M 175 = 100 := congrArg Prod.fst (hL.1 175 (by decide) (by decide))
theorem nm_l175 {M : am_M} (hL : nm_Lay M) : am_ln M 175 = 8 := congrArg Prod.snd (hL.1 175 (by decide) (by decide))
theorem nm_k176 {M : am_M} (hL : nm_Lay M) : am_kd M 176 = 7 := congrArg Prod.fst (hL.1 176 (by decide) (by decide))
theorem nm_k177 {M : am_M} (hL : nm_Lay M) : am_kd M 177 = 100 := congrArg Prod.fst (hL.1 177 (by decide) (by decide))
theorem nm_l177 {M : am_M} (hL : nm_Lay M) : am_ln M 177 = 6 := congrArg Prod.snd (hL.1 177 (by decide) (by decide))
theorem nm_k178 {M : am_M} (hL : nm_Lay M) : am_kd M 178 = 100 := congrArg Prod.fst (hL.1 178 (by decide) (by decide))
theorem nm_l178 {M : am_M} (hL : nm_Lay M) : am_ln M 178 = 6 := congrArg Prod.snd (hL.1 178 (by decide) (by decide))
theorem nm_k179 {M : am_M} (hL : nm_Lay M) : am_kd M 179 = 100 := congrArg Prod.fst (hL.1 179 (by decide) (by decide))
theorem nm_l179 {M : am_M} (hL : nm_Lay M) : am_ln M 179 = 8 := congrArg Prod.snd (hL.1 179 (by decide) (by decide))
theorem nm_k180 {M : am_M} (hL : nm_Lay M) : am_kd M 180 = 7 := congrArg Prod.fst (hL.1 180 (by decide) (by decide))
theorem nm_k181 {M : am_M} (hL : nm_Lay M) : am_kd M 181 = 100 := congrArg Prod.fst (hL.1 181 (by decide) (by decide))
theorem nm_l181 {M : am_M} (hL : nm_Lay M) : am_ln M 181 = 6 := congrArg Prod.snd (hL.1 181 (by decide) (by decide))
theorem nm_k182 {M : am_M} (hL : nm_Lay M) : am_kd M 182 = 100 := congrArg Prod.fst (hL.1 182 (by decide) (by decide))
theorem nm_l182 {M : am_M} (hL : nm_Lay M) : am_ln M 182 = 6 := congrArg Prod.snd (hL.1 182 (by decide) (by decide))
theorem nm_k183 {M : am_M} (hL : nm_Lay M) : am_kd M 183 = 100 := congrArg Prod.fst (hL.1 183 (by decide) (by decide))
theorem nm_l183 {M : am_M} (hL : nm_Lay M) : am_ln M 183 = 8 := congrArg Prod.snd (hL.1 183 (by decide) (by decide))
theorem nm_k184 {M : am_M} (hL : nm_Lay M) : am_kd M 184 = 100 := congrArg Prod.fst (hL.1 184 (by decide) (by decide))
theorem nm_l184 {M : am_M} (hL : nm_Lay M) : am_ln M 184 = 5 := congrArg Prod.snd (hL.1 184 (by decide) (by decide))
theorem nm_k185 {M : am_M} (hL : nm_Lay M) : am_kd M 185 = 101 := congrArg Prod.fst (hL.1 185 (by decide) (by decide))
theorem nm_l185 {M : am_M} (hL : nm_Lay M) : am_ln M 185 = 31 := congrArg Prod.snd (hL.1 185 (by decide) (by decide))
theorem nm_k186 {M : am_M} (hL : nm_Lay M) : am_kd M 186 = 4 := congrArg Prod.fst (hL.1 186 (by decide) (by decide))
theorem nm_k187 {M : am_M} (hL : nm_Lay M) : am_kd M 187 = 100 := congrArg Prod.fst (hL.1 187 (by decide) (by decide))
theorem nm_l187 {M : am_M} (hL : nm_Lay M) : am_ln M 187 = 6 := congrArg Prod.snd (hL.1 187 (by decide) (by decide))
theorem nm_k188 {M : am_M} (hL : nm_Lay M) : am_kd M 188 = 100 := congrArg Prod.fst (hL.1 188 (by decide) (by decide))
theorem nm_l188 {M : am_M} (hL : nm_Lay M) : am_ln M 188 = 30 := congrArg Prod.snd (hL.1 188 (by decide) (by decide))
theorem nm_k189 {M : am_M} (hL : nm_Lay M) : am_kd M 189 = 100 := congrArg Prod.fst (hL.1 189 (by decide) (by decide))
theorem nm_l189 {M : am_M} (hL : nm_Lay M) : am_ln M 189 = 6 := congrArg Prod.snd (hL.1 189 (by decide) (by decide))
theorem nm_k190 {M : am_M} (hL : nm_Lay M) : am_kd M 190 = 100 := congrArg Prod.fst (hL.1 190 (by decide) (by decide))
theorem nm_l190 {M : am_M} (hL : nm_Lay M) : am_ln M 190 = 6 := congrArg Prod.snd (hL.1 190 (by decide) (by decide))
theorem nm_k191 {M : am_M} (hL : nm_Lay M) : am_kd M 191 = 100 := congrArg Prod.fst (hL.1 191 (by decide) (by decide))
theorem nm_l191 {M : am_M} (hL : nm_Lay M) : am_ln M 191 = 8 := congrArg Prod.snd (hL.1 191 (by decide) (by decide))
theorem nm_k192 {M : am_M} (hL : nm_Lay M) : am_kd M 192 = 100 := congrArg Prod.fst (hL.1 192 (by decide) (by decide))
theorem nm_l192 {M : am_M} (hL : nm_Lay M) : am_ln M 192 = 8 := congrArg Prod.snd (hL.1 192 (by decide) (by decide))
theorem nm_k193 {M : am_M} (hL : nm_Lay M) : am_kd M 193 = 100 := congrArg Prod.fst (hL.1 193 (by decide) (by decide))
theorem nm_l193 {M : am_M} (hL : nm_Lay M) : am_ln M 193 = 8 := congrArg Prod.snd (hL.1 193 (by decide) (by decide))
theorem nm_k194 {M : am_M} (hL : nm_Lay M) : am_kd M 194 = 100 := congrArg Prod.fst (hL.1 194 (by decide) (by decide))
theorem nm_l194 {M : am_M} (hL : nm_Lay M) : am_ln M 194 = 8 := congrArg Prod.snd (hL.1 194 (by decide) (by decide))
theorem nm_k195 {M : am_M} (hL : nm_Lay M) : am_kd M 195 = 104 := congrArg Prod.fst (hL.1 195 (by decide) (by decide))
theorem nm_l195 {M : am_M} (hL : nm_Lay M) : am_ln M 195 = 6 := congrArg Prod.snd (hL.1 195 (by decide) (by decide))
theorem nm_k196 {M : am_M} (hL : nm_Lay M) : am_kd M 196 = 7 := congrArg Prod.fst (hL.1 196 (by decide) (by decide))
theorem nm_k197 {M : am_M} (hL : nm_Lay M) : am_kd M 197 = 100 := congrArg Prod.fst (hL.1 197 (by decide) (by decide))
theorem nm_l197 {M : am_M} (hL : nm_Lay M) : am_ln M 197 = 6 := congrArg Prod.snd (hL.1 197 (by decide) (by decide))
theorem nm_k198 {M : am_M} (hL : nm_Lay M) : am_kd M 198 = 100 := congrArg Prod.fst (hL.1 198 (by decide) (by decide))
theorem nm_l198 {M : am_M} (hL : nm_Lay M) : am_ln M 198 = 6 := congrArg Prod.snd (hL.1 198 (by decide) (by decide))
theorem nm_k199 {M : am_M} (hL : nm_Lay M) : am_kd M 199 = 100 := congrArg Prod.fst (hL.1 199 (by decide) (by decide))
theorem nm_l199 {M : am_M} (hL : nm_Lay M) : am_ln M 199 = 8 := congrArg Prod.snd (hL.1 199 (by decide) (by decide))
theorem nm_k200 {M : am_M} (hL : nm_Lay M) : am_kd M 200 = 4 := congrArg Prod.fst (hL.1 200 (by decide) (by decide))
theorem nm_k201 {M : am_M} (hL : nm_Lay M) : am_kd M 201 = 100 := congrArg Prod.fst (hL.1 201 (by decide) (by decide))
theorem nm_l201 {M : am_M} (hL : nm_Lay M) : am_ln M 201 = 6 := congrArg Prod.snd (hL.1 201 (by decide) (by decide))
theorem nm_k202 {M : am_M} (hL : nm_Lay M) : am_kd M 202 = 100 := congrArg Prod.fst (hL.1 202 (by decide) (by decide))
theorem nm_l202 {M : am_M} (hL : nm_Lay M) : am_ln M 202 = 30 := congrArg Prod.snd (hL.1 202 (by decide) (by decide))
theorem nm_k203 {M : am_M} (hL : nm_Lay M) : am_kd M 203 = 100 := congrArg Prod.fst (hL.1 203 (by decide) (by decide))
theorem nm_l203 {M : am_M} (hL : nm_Lay M) : am_ln M 203 = 6 := congrArg Prod.snd (hL.1 203 (by decide) (by decide))
theorem nm_k204 {M : am_M} (hL : nm_Lay M) : am_kd M 204 = 100 := congrArg Prod.fst (hL.1 204 (by decide) (by decide))
theorem nm_l204 {M : am_M} (hL : nm_Lay M) : am_ln M 204 = 6 := congrArg Prod.snd (hL.1 204 (by decide) (by decide))
theorem nm_k205 {M : am_M} (hL : nm_Lay M) : am_kd M 205 = 100 := congrArg Prod.fst (hL.1 205 (by decide) (by decide))
theorem nm_l205 {M : am_M} (hL : nm_Lay M) : am_ln M 205 = 8 := congrArg Prod.snd (hL.1 205 (by decide) (by decide))
theorem nm_k206 {M : am_M} (hL : nm_Lay M) : am_kd M 206 = 100 := congrArg Prod.fst (hL.1 206 (by decide) (by decide))
theorem nm_l206 {M : am_M} (hL : nm_Lay M) : am_ln M 206 = 8 := congrArg Prod.snd (hL.1 206 (by decide) (by decide))
theorem nm_k207 {M : am_M} (hL : nm_Lay M) : am_kd M 207 = 100 := congrArg Prod.fst (hL.1 207 (by decide) (by decide))
theorem nm_l207 {M : am_M} (hL : nm_Lay M) : am_ln M 207 = 8 := congrArg Prod.snd (hL.1 207 (by decide) (by decide))
theorem nm_k208 {M : am_M} (hL : nm_Lay M) : am_kd M 208 = 100 := congrArg Prod.fst (hL.1 208 (by decide) (by decide))
theorem nm_l208 {M : am_M} (hL : nm_Lay M) : am_ln M 208 = 8 := congrArg Prod.snd (hL.1 208 (by decide) (by decide))
theorem nm_k209 {M : am_M} (hL : nm_Lay M) : am_kd M 209 = 104 := congrArg Prod.fst (hL.1 209 (by decide) (by decide))
theorem nm_l209 {M : am_M} (hL : nm_Lay M) : am_ln M 209 = 6 := congrArg Prod.snd (hL.1 209 (by decide) (by decide))
theorem nm_k210 {M : am_M} (hL : nm_Lay M) : am_kd M 210 = 7 := congrArg Prod.fst (hL.1 210 (by decide) (by decide))
theorem nm_k211 {M : am_M} (hL : nm_Lay M) : am_kd M 211 = 100 := congrArg Prod.fst (hL.1 211 (by decide) (by decide))
theorem nm_l211 {M : am_M} (hL : nm_Lay M) : am_ln M 211 = 6 := congrArg Prod.snd (hL.1 211 (by decide) (by decide))
theorem nm_k212 {M : am_M} (hL : nm_Lay M) : am_kd M 212 = 100 := congrArg Prod.fst (hL.1 212 (by decide) (by decide))
theorem nm_l212 {M : am_M} (hL : nm_Lay M) : am_ln M 212 = 6 := congrArg Prod.snd (hL.1 212 (by decide) (by decide))
theorem nm_k213 {M : am_M} (hL : nm_Lay M) : am_kd M 213 = 100 := congrArg Prod.fst (hL.1 213 (by decide) (by decide))
theorem nm_l213 {M : am_M} (hL : nm_Lay M) : am_ln M 213 = 8 := congrArg Prod.snd (hL.1 213 (by decide) (by decide))
theorem nm_k214 {M : am_M} (hL : nm_Lay M) : am_kd M 214 = 8 := congrArg Prod.fst (hL.1 214 (by decide) (by decide))
theorem nm_k215 {M : am_M} (hL : nm_Lay M) : am_kd M 215 = 100 := congrArg Prod.fst (hL.1 215 (by decide) (by decide))
theorem nm_l215 {M : am_M} (hL : nm_Lay M) : am_ln M 215 = 7 := congrArg Prod.snd (hL.1 215 (by decide) (by decide))
theorem nm_k216 {M : am_M} (hL : nm_Lay M) : am_kd M 216 = 100 := congrArg Prod.fst (hL.1 216 (by decide) (by decide))
theorem nm_l216 {M : am_M} (hL : nm_Lay M) : am_ln M 216 = 5510 := congrArg Prod.snd (hL.1 216 (by decide) (by decide))
theorem nm_k217 {M : am_M} (hL : nm_Lay M) : am_kd M 217 = 100 := congrArg Prod.fst (hL.1 217 (by decide) (by decide))
theorem nm_l217 {M : am_M} (hL : nm_Lay M) : am_ln M 217 = 11020 := congrArg Prod.snd (hL.1 217 (by decide) (by decide))
theorem nm_k218 {M : am_M} (hL : nm_Lay M) : am_kd M 218 = 102 := congrArg Prod.fst (hL.1 218 (by decide) (by decide))
theorem nm_l218 {M : am_M} (hL : nm_Lay M) : am_ln M 218 = 2 := congrArg Prod.snd (hL.1 218 (by decide) (by decide))
theorem nm_k219 {M : am_M} (hL : nm_Lay M) : am_kd M 219 = 100 := congrArg Prod.fst (hL.1 219 (by decide) (by decide))
theorem nm_l219 {M : am_M} (hL : nm_Lay M) : am_ln M 219 = 450 := congrArg Prod.snd (hL.1 219 (by decide) (by decide))
theorem nm_k220 {M : am_M} (hL : nm_Lay M) : am_kd M 220 = 100 := congrArg Prod.fst (hL.1 220 (by decide) (by decide))
theorem nm_l220 {M : am_M} (hL : nm_Lay M) : am_ln M 220 = 16 := congrArg Prod.snd (hL.1 220 (by decide) (by decide))
theorem nm_k221 {M : am_M} (hL : nm_Lay M) : am_kd M 221 = 100 := congrArg Prod.fst (hL.1 221 (by decide) (by decide))
theorem nm_l221 {M : am_M} (hL : nm_Lay M) : am_ln M 221 = 400 := congrArg Prod.snd (hL.1 221 (by decide) (by decide))
theorem nm_k222 {M : am_M} (hL : nm_Lay M) : am_kd M 222 = 100 := congrArg Prod.fst (hL.1 222 (by decide) (by decide))
theorem nm_l222 {M : am_M} (hL : nm_Lay M) : am_ln M 222 = 16 := congrArg Prod.snd (hL.1 222 (by decide) (by decide))
theorem nm_k223 {M : am_M} (hL : nm_Lay M) : am_kd M 223 = 100 := congrArg Prod.fst (hL.1 223 (by decide) (by decide))
theorem nm_l223 {M : am_M} (hL : nm_Lay M) : am_ln M 223 = 400 := congrArg Prod.snd (hL.1 223 (by decide) (by decide))
theorem nm_k224 {M : am_M} (hL : nm_Lay M) : am_kd M 224 = 100 := congrArg Prod.fst (hL.1 224 (by decide) (by decide))
theorem nm_l224 {M : am_M} (hL : nm_Lay M) : am_ln M 224 = 96 := congrArg Prod.snd (hL.1 224 (by decide) (by decide))
theorem nm_k225 {M : am_M} (hL : nm_Lay M) : am_kd M 225 = 100 := congrArg Prod.fst (hL.1 225 (by decide) (by decide))
theorem nm_l225 {M : am_M} (hL : nm_Lay M) : am_ln M 225 = 400 := congrArg Prod.snd (hL.1 225 (by decide) (by decide))
theorem nm_k226 {M : am_M} (hL : nm_Lay M) : am_kd M 226 = 100 := congrArg Prod.fst (hL.1 226 (by decide) (by decide))
theorem nm_l226 {M : am_M} (hL : nm_Lay M) : am_ln M 226 = 400 := congrArg Prod.snd (hL.1 226 (by decide) (by decide))
theorem nm_k227 {M : am_M} (hL : nm_Lay M) : am_kd M 227 = 100 := congrArg Prod.fst (hL.1 227 (by decide) (by decide))
theorem nm_l227 {M : am_M} (hL : nm_Lay M) : am_ln M 227 = 400 := congrArg Prod.snd (hL.1 227 (by decide) (by decide))
theorem nm_k228 {M : am_M} (hL : nm_Lay M) : am_kd M 228 = 100 := congrArg Prod.fst (hL.1 228 (by decide) (by decide))
theorem nm_l228 {M : am_M} (hL : nm_Lay M) : am_ln M 228 = 400 := congrArg Prod.snd (hL.1 228 (by decide) (by decide))
theorem nm_k229 {M : am_M} (hL : nm_Lay M) : am_kd M 229 = 101 := congrArg Prod.fst (hL.1 229 (by decide) (by decide))
theorem nm_l229 {M : am_M} (hL : nm_Lay M) : am_ln M 229 = 8 := congrArg Prod.snd (hL.1 229 (by decide) (by decide))
theorem nm_k230 {M : am_M} (hL : nm_Lay M) : am_kd M 230 = 101 := congrArg Prod.fst (hL.1 230 (by decide) (by decide))
theorem nm_l230 {M : am_M} (hL : nm_Lay M) : am_ln M 230 = 6 := congrArg Prod.snd (hL.1 230 (by decide) (by decide))
theorem nm_k231 {M : am_M} (hL : nm_Lay M) : am_kd M 231 = 101 := congrArg Prod.fst (hL.1 231 (by decide) (by decide))
theorem nm_l231 {M : am_M} (hL : nm_Lay M) : am_ln M 231 = 4 := congrArg Prod.snd (hL.1 231 (by decide) (by decide))
theorem nm_k232 {M : am_M} (hL : nm_Lay M) : am_kd M 232 = 101 := congrArg Prod.fst (hL.1 232 (by decide) (by decide))
theorem nm_l232 {M : am_M} (hL : nm_Lay M) : am_ln M 232 = 13 := congrArg Prod.snd (hL.1 232 (by decide) (by decide))
theorem nm_k233 {M : am_M} (hL : nm_Lay M) : am_kd M 233 = 101 := congrArg Prod.fst (hL.1 233 (by decide) (by decide))
theorem nm_l233 {M : am_M} (hL : nm_Lay M) : am_ln M 233 = 13 := congrArg Prod.snd (hL.1 233 (by decide) (by decide))
theorem nm_k234 {M : am_M} (hL : nm_Lay M) : am_kd M 234 = 101 := congrArg Prod.fst (hL.1 234 (by decide) (by decide))
theorem nm_l234 {M : am_M} (hL : nm_Lay M) : am_ln M 234 = 400 := congrArg Prod.snd (hL.1 234 (by decide) (by decide))
theorem nm_k235 {M : am_M} (hL : nm_Lay M) : am_kd M 235 = 100 := congrArg Prod.fst (hL.1 235 (by decide) (by decide))
theorem nm_l235 {M : am_M} (hL : nm_Lay M) : am_ln M 235 = 8 := congrArg Prod.snd (hL.1 235 (by decide) (by decide))
theorem nm_k236 {M : am_M} (hL : nm_Lay M) : am_kd M 236 = 100 := congrArg Prod.fst (hL.1 236 (by decide) (by decide))
theorem nm_l236 {M : am_M} (hL : nm_Lay M) : am_ln M 236 = 6 := congrArg Prod.snd (hL.1 236 (by decide) (by decide))
theorem nm_k237 {M : am_M} (hL : nm_Lay M) : am_kd M 237 = 100 := congrArg Prod.fst (hL.1 237 (by decide) (by decide))
theorem nm_l237 {M : am_M} (hL : nm_Lay M) : am_ln M 237 = 288 := congrArg Prod.snd (hL.1 237 (by decide) (by decide))
theorem nm_k238 {M : am_M} (hL : nm_Lay M) : am_kd M 238 = 102 := congrArg Prod.fst (hL.1 238 (by decide) (by decide))
theorem nm_l238 {M : am_M} (hL : nm_Lay M) : am_ln M 238 = 36 := congrArg Prod.snd (hL.1 238 (by decide) (by decide))
theorem nm_k239 {M : am_M} (hL : nm_Lay M) : am_kd M 239 = 100 := congrArg Prod.fst (hL.1 239 (by decide) (by decide))
theorem nm_l239 {M : am_M} (hL : nm_Lay M) : am_ln M 239 = 7 := congrArg Prod.snd (hL.1 239 (by decide) (by decide))
theorem nm_k240 {M : am_M} (hL : nm_Lay M) : am_kd M 240 = 100 := congrArg Prod.fst (hL.1 240 (by decide) (by decide))
theorem nm_l240 {M : am_M} (hL : nm_Lay M) : am_ln M 240 = 6 := congrArg Prod.snd (hL.1 240 (by decide) (by decide))
theorem nm_k241 {M : am_M} (hL : nm_Lay M) : am_kd M 241 = 100 := congrArg Prod.fst (hL.1 241 (by decide) (by decide))
theorem nm_l241 {M : am_M} (hL : nm_Lay M) : am_ln M 241 = 256 := congrArg Prod.snd (hL.1 241 (by decide) (by decide))
theorem nm_k242 {M : am_M} (hL : nm_Lay M) : am_kd M 242 = 100 := congrArg Prod.fst (hL.1 242 (by decide) (by decide))
theorem nm_l242 {M : am_M} (hL : nm_Lay M) : am_ln M 242 = 8 := congrArg Prod.snd (hL.1 242 (by decide) (by decide))
theorem nm_k243 {M : am_M} (hL : nm_Lay M) : am_kd M 243 = 101 := congrArg Prod.fst (hL.1 243 (by decide) (by decide))
theorem nm_l243 {M : am_M} (hL : nm_Lay M) : am_ln M 243 = 31 := congrArg Prod.snd (hL.1 243 (by decide) (by decide))
theorem nm_k244 {M : am_M} (hL : nm_Lay M) : am_kd M 244 = 101 := congrArg Prod.fst (hL.1 244 (by decide) (by decide))
theorem nm_l244 {M : am_M} (hL : nm_Lay M) : am_ln M 244 = 4 := congrArg Prod.snd (hL.1 244 (by decide) (by decide))
theorem nm_k245 {M : am_M} (hL : nm_Lay M) : am_kd M 245 = 100 := congrArg Prod.fst (hL.1 245 (by decide) (by decide))
theorem nm_l245 {M : am_M} (hL : nm_Lay M) : am_ln M 245 = 96 := congrArg Prod.snd (hL.1 245 (by decide) (by decide))
theorem nm_k246 {M : am_M} (hL : nm_Lay M) : am_kd M 246 = 100 := congrArg Prod.fst (hL.1 246 (by decide) (by decide))
theorem nm_l246 {M : am_M} (hL : nm_Lay M) : am_ln M 246 = 20 := congrArg Prod.snd (hL.1 246 (by decide) (by decide))
theorem nm_Wn0 (c : Int) (h : nm_WL.all (fun w => decide (w + 0 ≠ c)) = true) {w : Int} (hw : w ∈ nm_WL) : (w = c) = False := eq_false (by have := nm_Wno 0 c h hw; omega)
theorem nm_Wm0 (c : Int) (h : nm_WL.all (fun w => decide (w + 0 ≠ c)) = true) {w : Int} (hw : w ∈ nm_WL) : (c = w) = False := eq_false (by have := nm_Wno 0 c h hw; omega)
theorem nm_vv01 (w : Int) : (w = w + 1) = False := eq_false (by omega)
theorem nm_vv02 (w : Int) : (w = w + 2) = False := eq_false (by omega)
theorem nm_vv03 (w : Int) : (w = w + 3) = False := eq_false (by omega)
theorem nm_Wn1 (c : Int) (h : nm_WL.all (fun w => decide (w + 1 ≠ c)) = true) {w : Int} (hw : w ∈ nm_WL) : (w + 1 = c) = False := eq_false (by have := nm_Wno 1 c h hw; omega)
theorem nm_Wm1 (c : Int) (h : nm_WL.all (fun w => decide (w + 1 ≠ c)) = true) {w : Int} (hw : w ∈ nm_WL) : (c = w + 1) = False := eq_false (by have := nm_Wno 1 c h hw; omega)
theorem nm_vv10 (w : Int) : (w + 1 = w) = False := eq_false (by omega)
theorem nm_vv12 (w : Int) : (w + 1 = w + 2) = False := eq_false (by omega)
theorem nm_vv13 (w : Int) : (w + 1 = w + 3) = False := eq_false (by omega)
theorem nm_Wn2 (c : Int) (h : nm_WL.all (fun w => decide (w + 2 ≠ c)) = true) {w : Int} (hw : w ∈ nm_WL) : (w + 2 = c) = False := eq_false (by have := nm_Wno 2 c h hw; omega)
theorem nm_Wm2 (c : Int) (h : nm_WL.all (fun w => decide (w + 2 ≠ c)) = true) {w : Int} (hw : w ∈ nm_WL) : (c = w + 2) = False := eq_false (by have := nm_Wno 2 c h hw; omega)
theorem nm_vv20 (w : Int) : (w + 2 = w) = False := eq_false (by omega)
theorem nm_vv21 (w : Int) : (w + 2 = w + 1) = False := eq_false (by omega)
theorem nm_vv23 (w : Int) : (w + 2 = w + 3) = False := eq_false (by omega)
theorem nm_Wn3 (c : Int) (h : nm_WL.all (fun w => decide (w + 3 ≠ c)) = true) {w : Int} (hw : w ∈ nm_WL) : (w + 3 = c) = False := eq_false (by have := nm_Wno 3 c h hw; omega)
theorem nm_Wm3 (c : Int) (h : nm_WL.all (fun w => decide (w + 3 ≠ c)) = true) {w : Int} (hw : w ∈ nm_WL) : (c = w + 3) = False := eq_false (by have := nm_Wno 3 c h hw; omega)
theorem nm_vv30 (w : Int) : (w + 3 = w) = False := eq_false (by omega)
theorem nm_vv31 (w : Int) : (w + 3 = w + 1) = False := eq_false (by omega)
theorem nm_vv32 (w : Int) : (w + 3 = w + 2) = False := eq_false (by omega)
theorem nm_Wpair (a b : Int) (h : nm_WL.all (fun w => nm_WL.all (fun v => decide (w + a ≠ v + b))) = true) {w v : Int} (hw : w ∈ nm_WL) (hv : v ∈ nm_WL) : w + a ≠ v + b := of_decide_eq_true (List.all_eq_true.mp (nm_Wall h hw) v hv)
theorem nm_ww01 {w v : Int} (hw : w ∈ nm_WL) (hv : v ∈ nm_WL) : (w = v + 1) = False := eq_false (by have := nm_Wpair 0 1 (by decide +kernel) hw hv; omega)
theorem nm_ww02 {w v : Int} (hw : w ∈ nm_WL) (hv : v ∈ nm_WL) : (w = v + 2) = False := eq_false (by have := nm_Wpair 0 2 (by decide +kernel) hw hv; omega)
theorem nm_ww03 {w v : Int} (hw : w ∈ nm_WL) (hv : v ∈ nm_WL) : (w = v + 3) = False := eq_false (by have := nm_Wpair 0 3 (by decide +kernel) hw hv; omega)
theorem nm_ww10 {w v : Int} (hw : w ∈ nm_WL) (hv : v ∈ nm_WL) : (w + 1 = v) = False := eq_false (by have := nm_Wpair 1 0 (by decide +kernel) hw hv; omega)
theorem nm_ww12 {w v : Int} (hw : w ∈ nm_WL) (hv : v ∈ nm_WL) : (w + 1 = v + 2) = False := eq_false (by have := nm_Wpair 1 2 (by decide +kernel) hw hv; omega)
theorem nm_ww13 {w v : Int} (hw : w ∈ nm_WL) (hv : v ∈ nm_WL) : (w + 1 = v + 3) = False := eq_false (by have := nm_Wpair 1 3 (by decide +kernel) hw hv; omega)
theorem nm_ww20 {w v : Int} (hw : w ∈ nm_WL) (hv : v ∈ nm_WL) : (w + 2 = v) = False := eq_false (by have := nm_Wpair 2 0 (by decide +kernel) hw hv; omega)
theorem nm_ww21 {w v : Int} (hw : w ∈ nm_WL) (hv : v ∈ nm_WL) : (w + 2 = v + 1) = False := eq_false (by have := nm_Wpair 2 1 (by decide +kernel) hw hv; omega)
theorem nm_ww23 {w v : Int} (hw : w ∈ nm_WL) (hv : v ∈ nm_WL) : (w + 2 = v + 3) = False := eq_false (by have := nm_Wpair 2 3 (by decide +kernel) hw hv; omega)
theorem nm_ww30 {w v : Int} (hw : w ∈ nm_WL) (hv : v ∈ nm_WL) : (w + 3 = v) = False := eq_false (by have := nm_Wpair 3 0 (by decide +kernel) hw hv; omega)
theorem nm_ww31 {w v : Int} (hw : w ∈ nm_WL) (hv : v ∈ nm_WL) : (w + 3 = v + 1) = False := eq_false (by have := nm_Wpair 3 1 (by decide +kernel) hw hv; omega)
theorem nm_ww32 {w v : Int} (hw : w ∈ nm_WL) (hv : v ∈ nm_WL) : (w + 3 = v + 2) = False := eq_false (by have := nm_Wpair 3 2 (by decide +kernel) hw hv; omega)
theorem nm_r0_0 {M : am_M} (hL : nm_Lay M) : am_gt M 0 0 = 1 := nm_rf hL 0 (0, 0, 1) rfl
theorem nm_r0_1 {M : am_M} (hL : nm_Lay M) : am_gt M 0 1 = 15 := nm_rf hL 1 (0, 1, 15) rfl
theorem nm_r0_2 {M : am_M} (hL : nm_Lay M) : am_gt M 0 2 = 16 := nm_rf hL 2 (0, 2, 16) rfl
theorem nm_r0_3 {M : am_M} (hL : nm_Lay M) : am_gt M 0 3 = 17 := nm_rf hL 3 (0, 3, 17) rfl
theorem nm_r0_4 {M : am_M} (hL : nm_Lay M) : am_gt M 0 4 = 20 := nm_rf hL 4 (0, 4, 20) rfl
theorem nm_r0_5 {M : am_M} (hL : nm_Lay M) : am_gt M 0 5 = 30 := nm_rf hL 5 (0, 5, 30) rfl
theorem nm_r0_6 {M : am_M} (hL : nm_Lay M) : am_gt M 0 6 = 34 := nm_rf hL 6 (0, 6, 34) rfl
theorem nm_r0_7 {M : am_M} (hL : nm_Lay M) : am_gt M 0 7 = 101 := nm_rf hL 7 (0, 7, 101) rfl
theorem nm_r0_8 {M : am_M} (hL : nm_Lay M) : am_gt M 0 8 = 168 := nm_rf hL 8 (0, 8, 168) rfl
theorem nm_r0_9 {M : am_M} (hL : nm_Lay M) : am_gt M 0 9 = 172 := nm_rf hL 9 (0, 9, 172) rfl
theorem nm_r0_10 {M : am_M} (hL : nm_Lay M) : am_gt M 0 10 = 176 := nm_rf hL 10 (0, 10, 176) rfl
theorem nm_r0_11 {M : am_M} (hL : nm_Lay M) : am_gt M 0 11 = 180 := nm_rf hL 11 (0, 11, 180) rfl
theorem nm_r0_12 {M : am_M} (hL : nm_Lay M) : am_gt M 0 12 = 184 := nm_rf hL 12 (0, 12, 184) rfl
theorem nm_r0_13 {M : am_M} (hL : nm_Lay M) : am_gt M 0 13 = 185 := nm_rf hL 13 (0, 13, 185) rfl
theorem nm_r1_1 {M : am_M} (hL : nm_Lay M) : am_gt M 1 1 = 2 := nm_rf hL 14 (1, 1, 2) rfl
theorem nm_r1_2 {M : am_M} (hL : nm_Lay M) : am_gt M 1 2 = 3 := nm_rf hL 15 (1, 2, 3) rfl
theorem nm_r1_3 {M : am_M} (hL : nm_Lay M) : am_gt M 1 3 = 4 := nm_rf hL 16 (1, 3, 4) rfl
theorem nm_r1_4 {M : am_M} (hL : nm_Lay M) : am_gt M 1 4 = 5 := nm_rf hL 17 (1, 4, 5) rfl
theorem nm_r1_5 {M : am_M} (hL : nm_Lay M) : am_gt M 1 5 = 6 := nm_rf hL 18 (1, 5, 6) rfl
theorem nm_r1_7 {M : am_M} (hL : nm_Lay M) : am_gt M 1 7 = 7 := nm_rf hL 19 (1, 7, 7) rfl
theorem nm_r1_8 {M : am_M} (hL : nm_Lay M) : am_gt M 1 8 = 8 := nm_rf hL 20 (1, 8, 8) rfl
theorem nm_r1_9 {M : am_M} (hL : nm_Lay M) : am_gt M 1 9 = 9 := nm_rf hL 21 (1, 9, 9) rfl
theorem nm_r1_14 {M : am_M} (hL : nm_Lay M) : am_gt M 1 14 = 10 := nm_rf hL 22 (1, 14, 10) rfl
theorem nm_r1_16 {M : am_M} (hL : nm_Lay M) : am_gt M 1 16 = 11 := nm_rf hL 23 (1, 16, 11) rfl
theorem nm_r11_2 {M : am_M} (hL : nm_Lay M) : am_gt M 11 2 = 12 := nm_rf hL 24 (11, 2, 12) rfl
theorem nm_r11_3 {M : am_M} (hL : nm_Lay M) : am_gt M 11 3 = 13 := nm_rf hL 25 (11, 3, 13) rfl
theorem nm_r11_4 {M : am_M} (hL : nm_Lay M) : am_gt M 11 4 = 14 := nm_rf hL 26 (11, 4, 14) rfl
theorem nm_r15_0 {M : am_M} (hL : nm_Lay M) : am_gt M 15 0 = 186 := nm_rf hL 27 (15, 0, 186) rfl
theorem nm_r15_1 {M : am_M} (hL : nm_Lay M) : am_gt M 15 1 = 200 := nm_rf hL 28 (15, 1, 200) rfl
theorem nm_r17_0 {M : am_M} (hL : nm_Lay M) : am_gt M 17 0 = 1 := nm_rf hL 29 (17, 0, 1) rfl
theorem nm_r17_1 {M : am_M} (hL : nm_Lay M) : am_gt M 17 1 = 18 := nm_rf hL 30 (17, 1, 18) rfl
theorem nm_r17_2 {M : am_M} (hL : nm_Lay M) : am_gt M 17 2 = 19 := nm_rf hL 31 (17, 2, 19) rfl
theorem nm_r20_0 {M : am_M} (hL : nm_Lay M) : am_gt M 20 0 = 21 := nm_rf hL 32 (20, 0, 21) rfl
theorem nm_r20_1 {M : am_M} (hL : nm_Lay M) : am_gt M 20 1 = 1 := nm_rf hL 33 (20, 1, 1) rfl
theorem nm_r20_2 {M : am_M} (hL : nm_Lay M) : am_gt M 20 2 = 17 := nm_rf hL 34 (20, 2, 17) rfl
theorem nm_r20_3 {M : am_M} (hL : nm_Lay M) : am_gt M 20 3 = 22 := nm_rf hL 35 (20, 3, 22) rfl
theorem nm_r20_4 {M : am_M} (hL : nm_Lay M) : am_gt M 20 4 = 23 := nm_rf hL 36 (20, 4, 23) rfl
theorem nm_r20_5 {M : am_M} (hL : nm_Lay M) : am_gt M 20 5 = 24 := nm_rf hL 37 (20, 5, 24) rfl
theorem nm_r20_6 {M : am_M} (hL : nm_Lay M) : am_gt M 20 6 = 25 := nm_rf hL 38 (20, 6, 25) rfl
theorem nm_r20_7 {M : am_M} (hL : nm_Lay M) : am_gt M 20 7 = 26 := nm_rf hL 39 (20, 7, 26) rfl
theorem nm_r20_8 {M : am_M} (hL : nm_Lay M) : am_gt M 20 8 = 27 := nm_rf hL 40 (20, 8, 27) rfl
theorem nm_r20_9 {M : am_M} (hL : nm_Lay M) : am_gt M 20 9 = 28 := nm_rf hL 41 (20, 9, 28) rfl
theorem nm_r20_10 {M : am_M} (hL : nm_Lay M) : am_gt M 20 10 = 29 := nm_rf hL 42 (20, 10, 29) rfl
theorem nm_r30_0 {M : am_M} (hL : nm_Lay M) : am_gt M 30 0 = 31 := nm_rf hL 43 (30, 0, 31) rfl
theorem nm_r30_9 {M : am_M} (hL : nm_Lay M) : am_gt M 30 9 = 32 := nm_rf hL 44 (30, 9, 32) rfl
theorem nm_r30_11 {M : am_M} (hL : nm_Lay M) : am_gt M 30 11 = 33 := nm_rf hL 45 (30, 11, 33) rfl
theorem nm_r34_1 {M : am_M} (hL : nm_Lay M) : am_gt M 34 1 = 35 := nm_rf hL 46 (34, 1, 35) rfl
theorem nm_r34_2 {M : am_M} (hL : nm_Lay M) : am_gt M 34 2 = 36 := nm_rf hL 47 (34, 2, 36) rfl
theorem nm_r101_1 {M : am_M} (hL : nm_Lay M) : am_gt M 101 1 = 102 := nm_rf hL 96 (101, 1, 102) rfl
theorem nm_r101_2 {M : am_M} (hL : nm_Lay M) : am_gt M 101 2 = 103 := nm_rf hL 97 (101, 2, 103) rfl
theorem nm_r168_2 {M : am_M} (hL : nm_Lay M) : am_gt M 168 2 = 169 := nm_rf hL 146 (168, 2, 169) rfl
theorem nm_r168_3 {M : am_M} (hL : nm_Lay M) : am_gt M 168 3 = 170 := nm_rf hL 147 (168, 3, 170) rfl
theorem nm_r168_4 {M : am_M} (hL : nm_Lay M) : am_gt M 168 4 = 171 := nm_rf hL 148 (168, 4, 171) rfl
theorem nm_r172_2 {M : am_M} (hL : nm_Lay M) : am_gt M 172 2 = 173 := nm_rf hL 149 (172, 2, 173) rfl
theorem nm_r172_3 {M : am_M} (hL : nm_Lay M) : am_gt M 172 3 = 174 := nm_rf hL 150 (172, 3, 174) rfl
theorem nm_r172_4 {M : am_M} (hL : nm_Lay M) : am_gt M 172 4 = 175 := nm_rf hL 151 (172, 4, 175) rfl
theorem nm_r176_2 {M : am_M} (hL : nm_Lay M) : am_gt M 176 2 = 177 := nm_rf hL 152 (176, 2, 177) rfl
theorem nm_r176_3 {M : am_M} (hL : nm_Lay M) : am_gt M 176 3 = 178 := nm_rf hL 153 (176, 3, 178) rfl
theorem nm_r176_4 {M : am_M} (hL : nm_Lay M) : am_gt M 176 4 = 179 := nm_rf hL 154 (176, 4, 179) rfl
theorem nm_r180_2 {M : am_M} (hL : nm_Lay M) : am_gt M 180 2 = 181 := nm_rf hL 155 (180, 2, 181) rfl
theorem nm_r180_3 {M : am_M} (hL : nm_Lay M) : am_gt M 180 3 = 182 := nm_rf hL 156 (180, 3, 182) rfl
theorem nm_r180_4 {M : am_M} (hL : nm_Lay M) : am_gt M 180 4 = 183 := nm_rf hL 157 (180, 4, 183) rfl
theorem nm_r186_1 {M : am_M} (hL : nm_Lay M) : am_gt M 186 1 = 187 := nm_rf hL 158 (186, 1, 187) rfl
theorem nm_r186_2 {M : am_M} (hL : nm_Lay M) : am_gt M 186 2 = 188 := nm_rf hL 159 (186, 2, 188) rfl
theorem nm_r186_3 {M : am_M} (hL : nm_Lay M) : am_gt M 186 3 = 189 := nm_rf hL 160 (186, 3, 189) rfl
theorem nm_r186_4 {M : am_M} (hL : nm_Lay M) : am_gt M 186 4 = 190 := nm_rf hL 161 (186, 4, 190) rfl
theorem nm_r186_5 {M : am_M} (hL : nm_Lay M) : am_gt M 186 5 = 191 := nm_rf hL 162 (186, 5, 191) rfl
theorem nm_r186_7 {M : am_M} (hL : nm_Lay M) : am_gt M 186 7 = 192 := nm_rf hL 163 (186, 7, 192) rfl
theorem nm_r186_8 {M : am_M} (hL : nm_Lay M) : am_gt M 186 8 = 193 := nm_rf hL 164 (186, 8, 193) rfl
theorem nm_r186_9 {M : am_M} (hL : nm_Lay M) : am_gt M 186 9 = 194 := nm_rf hL 165 (186, 9, 194) rfl
theorem nm_r186_14 {M : am_M} (hL : nm_Lay M) : am_gt M 186 14 = 195 := nm_rf hL 166 (186, 14, 195) rfl
theorem nm_r186_16 {M : am_M} (hL : nm_Lay M) : am_gt M 186 16 = 196 := nm_rf hL 167 (186, 16, 196) rfl
theorem nm_r196_2 {M : am_M} (hL : nm_Lay M) : am_gt M 196 2 = 197 := nm_rf hL 168 (196, 2, 197) rfl
theorem nm_r196_3 {M : am_M} (hL : nm_Lay M) : am_gt M 196 3 = 198 := nm_rf hL 169 (196, 3, 198) rfl
theorem nm_r196_4 {M : am_M} (hL : nm_Lay M) : am_gt M 196 4 = 199 := nm_rf hL 170 (196, 4, 199) rfl
theorem nm_r200_1 {M : am_M} (hL : nm_Lay M) : am_gt M 200 1 = 201 := nm_rf hL 171 (200, 1, 201) rfl
theorem nm_r200_2 {M : am_M} (hL : nm_Lay M) : am_gt M 200 2 = 202 := nm_rf hL 172 (200, 2, 202) rfl
theorem nm_r200_3 {M : am_M} (hL : nm_Lay M) : am_gt M 200 3 = 203 := nm_rf hL 173 (200, 3, 203) rfl
theorem nm_r200_4 {M : am_M} (hL : nm_Lay M) : am_gt M 200 4 = 204 := nm_rf hL 174 (200, 4, 204) rfl
theorem nm_r200_5 {M : am_M} (hL : nm_Lay M) : am_gt M 200 5 = 205 := nm_rf hL 175 (200, 5, 205) rfl
theorem nm_r200_7 {M : am_M} (hL : nm_Lay M) : am_gt M 200 7 = 206 := nm_rf hL 176 (200, 7, 206) rfl
theorem nm_r200_8 {M : am_M} (hL : nm_Lay M) : am_gt M 200 8 = 207 := nm_rf hL 177 (200, 8, 207) rfl
theorem nm_r200_9 {M : am_M} (hL : nm_Lay M) : am_gt M 200 9 = 208 := nm_rf hL 178 (200, 9, 208) rfl
theorem nm_r200_14 {M : am_M} (hL : nm_Lay M) : am_gt M 200 14 = 209 := nm_rf hL 179 (200, 14, 209) rfl
theorem nm_r200_16 {M : am_M} (hL : nm_Lay M) : am_gt M 200 16 = 210 := nm_rf hL 180 (200, 16, 210) rfl
theorem nm_r210_2 {M : am_M} (hL : nm_Lay M) : am_gt M 210 2 = 211 := nm_rf hL 181 (210, 2, 211) rfl
theorem nm_r210_3 {M : am_M} (hL : nm_Lay M) : am_gt M 210 3 = 212 := nm_rf hL 182 (210, 3, 212) rfl
theorem nm_r210_4 {M : am_M} (hL : nm_Lay M) : am_gt M 210 4 = 213 := nm_rf hL 183 (210, 4, 213) rfl
theorem nm_r214_2 {M : am_M} (hL : nm_Lay M) : am_gt M 214 2 = 215 := nm_rf hL 184 (214, 2, 215) rfl
theorem nm_r214_3 {M : am_M} (hL : nm_Lay M) : am_gt M 214 3 = 216 := nm_rf hL 185 (214, 3, 216) rfl
theorem nm_r214_4 {M : am_M} (hL : nm_Lay M) : am_gt M 214 4 = 217 := nm_rf hL 186 (214, 4, 217) rfl
theorem nm_r214_5 {M : am_M} (hL : nm_Lay M) : am_gt M 214 5 = 218 := nm_rf hL 187 (214, 5, 218) rfl
theorem nm_r214_6 {M : am_M} (hL : nm_Lay M) : am_gt M 214 6 = 219 := nm_rf hL 188 (214, 6, 219) rfl
theorem nm_r214_7 {M : am_M} (hL : nm_Lay M) : am_gt M 214 7 = 220 := nm_rf hL 189 (214, 7, 220) rfl
theorem nm_r214_9 {M : am_M} (hL : nm_Lay M) : am_gt M 214 9 = 221 := nm_rf hL 190 (214, 9, 221) rfl
theorem nm_r214_10 {M : am_M} (hL : nm_Lay M) : am_gt M 214 10 = 222 := nm_rf hL 191 (214, 10, 222) rfl
theorem nm_r214_12 {M : am_M} (hL : nm_Lay M) : am_gt M 214 12 = 223 := nm_rf hL 192 (214, 12, 223) rfl
theorem nm_r214_22 {M : am_M} (hL : nm_Lay M) : am_gt M 214 22 = 224 := nm_rf hL 193 (214, 22, 224) rfl
theorem nm_r214_24 {M : am_M} (hL : nm_Lay M) : am_gt M 214 24 = 225 := nm_rf hL 194 (214, 24, 225) rfl
theorem nm_r214_25 {M : am_M} (hL : nm_Lay M) : am_gt M 214 25 = 226 := nm_rf hL 195 (214, 25, 226) rfl
theorem nm_r214_27 {M : am_M} (hL : nm_Lay M) : am_gt M 214 27 = 227 := nm_rf hL 196 (214, 27, 227) rfl
theorem nm_r214_28 {M : am_M} (hL : nm_Lay M) : am_gt M 214 28 = 228 := nm_rf hL 197 (214, 28, 228) rfl
theorem nm_r214_31 {M : am_M} (hL : nm_Lay M) : am_gt M 214 31 = 229 := nm_rf hL 198 (214, 31, 229) rfl
theorem nm_r214_32 {M : am_M} (hL : nm_Lay M) : am_gt M 214 32 = 230 := nm_rf hL 199 (214, 32, 230) rfl
theorem nm_r214_33 {M : am_M} (hL : nm_Lay M) : am_gt M 214 33 = 231 := nm_rf hL 200 (214, 33, 231) rfl
theorem nm_r214_35 {M : am_M} (hL : nm_Lay M) : am_gt M 214 35 = 232 := nm_rf hL 201 (214, 35, 232) rfl
theorem nm_r214_36 {M : am_M} (hL : nm_Lay M) : am_gt M 214 36 = 233 := nm_rf hL 202 (214, 36, 233) rfl
theorem nm_r214_37 {M : am_M} (hL : nm_Lay M) : am_gt M 214 37 = 234 := nm_rf hL 203 (214, 37, 234) rfl
theorem nm_r214_41 {M : am_M} (hL : nm_Lay M) : am_gt M 214 41 = 235 := nm_rf hL 204 (214, 41, 235) rfl
theorem nm_r214_42 {M : am_M} (hL : nm_Lay M) : am_gt M 214 42 = 236 := nm_rf hL 205 (214, 42, 236) rfl
theorem nm_r214_43 {M : am_M} (hL : nm_Lay M) : am_gt M 214 43 = 237 := nm_rf hL 206 (214, 43, 237) rfl
theorem nm_r214_44 {M : am_M} (hL : nm_Lay M) : am_gt M 214 44 = 238 := nm_rf hL 207 (214, 44, 238) rfl
theorem nm_r214_45 {M : am_M} (hL : nm_Lay M) : am_gt M 214 45 = 239 := nm_rf hL 208 (214, 45, 239) rfl
theorem nm_r214_46 {M : am_M} (hL : nm_Lay M) : am_gt M 214 46 = 240 := nm_rf hL 209 (214, 46, 240) rfl
theorem nm_r214_47 {M : am_M} (hL : nm_Lay M) : am_gt M 214 47 = 241 := nm_rf hL 210 (214, 47, 241) rfl
theorem nm_r214_48 {M : am_M} (hL : nm_Lay M) : am_gt M 214 48 = 242 := nm_rf hL 211 (214, 48, 242) rfl
theorem nm_r214_49 {M : am_M} (hL : nm_Lay M) : am_gt M 214 49 = 243 := nm_rf hL 212 (214, 49, 243) rfl
theorem nm_r214_50 {M : am_M} (hL : nm_Lay M) : am_gt M 214 50 = 244 := nm_rf hL 213 (214, 50, 244) rfl
theorem nm_r214_51 {M : am_M} (hL : nm_Lay M) : am_gt M 214 51 = 245 := nm_rf hL 214 (214, 51, 245) rfl
theorem nm_r214_57 {M : am_M} (hL : nm_Lay M) : am_gt M 214 57 = 246 := nm_rf hL 215 (214, 57, 246) rfl
theorem nm_r229_0 {M : am_M} (hL : nm_Lay M) : am_gt M 229 0 = 446253554 := nm_rf hL 216 (229, 0, 446253554) rfl
theorem nm_r229_1 {M : am_M} (hL : nm_Lay M) : am_gt M 229 1 = 17171557 := nm_rf hL 217 (229, 1, 17171557) rfl
theorem nm_r229_2 {M : am_M} (hL : nm_Lay M) : am_gt M 229 2 = 278194 := nm_rf hL 218 (229, 2, 278194) rfl
theorem nm_r229_3 {M : am_M} (hL : nm_Lay M) : am_gt M 229 3 = 525908 := nm_rf hL 219 (229, 3, 525908) rfl
theorem nm_r229_4 {M : am_M} (hL : nm_Lay M) : am_gt M 229 4 = 71108 := nm_rf hL 220 (229, 4, 71108) rfl
theorem nm_r229_5 {M : am_M} (hL : nm_Lay M) : am_gt M 229 5 = 647387314 := nm_rf hL 221 (229, 5, 647387314) rfl
theorem nm_r229_6 {M : am_M} (hL : nm_Lay M) : am_gt M 229 6 = 14982420 := nm_rf hL 222 (229, 6, 14982420) rfl
theorem nm_r229_7 {M : am_M} (hL : nm_Lay M) : am_gt M 229 7 = 441828 := nm_rf hL 223 (229, 7, 441828) rfl
theorem nm_r230_0 {M : am_M} (hL : nm_Lay M) : am_gt M 230 0 = 14982420 := nm_rf hL 224 (230, 0, 14982420) rfl
theorem nm_r230_1 {M : am_M} (hL : nm_Lay M) : am_gt M 230 1 = 146885 := nm_rf hL 225 (230, 1, 146885) rfl
theorem nm_r230_2 {M : am_M} (hL : nm_Lay M) : am_gt M 230 2 = 404362868 := nm_rf hL 226 (230, 2, 404362868) rfl
theorem nm_r230_3 {M : am_M} (hL : nm_Lay M) : am_gt M 230 3 = 284103 := nm_rf hL 227 (230, 3, 284103) rfl
theorem nm_r230_4 {M : am_M} (hL : nm_Lay M) : am_gt M 230 4 = 647387314 := nm_rf hL 228 (230, 4, 647387314) rfl
theorem nm_r230_5 {M : am_M} (hL : nm_Lay M) : am_gt M 230 5 = 20593771 := nm_rf hL 229 (230, 5, 20593771) rfl
theorem nm_r231_0 {M : am_M} (hL : nm_Lay M) : am_gt M 231 0 = 13675699 := nm_rf hL 230 (231, 0, 13675699) rfl
theorem nm_r231_1 {M : am_M} (hL : nm_Lay M) : am_gt M 231 1 = 24282707 := nm_rf hL 231 (231, 1, 24282707) rfl
theorem nm_r231_2 {M : am_M} (hL : nm_Lay M) : am_gt M 231 2 = 526131 := nm_rf hL 232 (231, 2, 526131) rfl
theorem nm_r231_3 {M : am_M} (hL : nm_Lay M) : am_gt M 231 3 = 67155 := nm_rf hL 233 (231, 3, 67155) rfl
theorem nm_r244_0 {M : am_M} (hL : nm_Lay M) : am_gt M 244 0 = 263623 := nm_rf hL 234 (244, 0, 263623) rfl
theorem nm_r244_1 {M : am_M} (hL : nm_Lay M) : am_gt M 244 1 = 147182 := nm_rf hL 235 (244, 1, 147182) rfl
theorem nm_r244_2 {M : am_M} (hL : nm_Lay M) : am_gt M 244 2 = 553002600 := nm_rf hL 236 (244, 2, 553002600) rfl
theorem nm_r244_3 {M : am_M} (hL : nm_Lay M) : am_gt M 244 3 = 525939 := nm_rf hL 237 (244, 3, 525939) rfl
