theorem am_gT_good : GoodIn am_gT am_gT := fun w hw => ⟨hw, good_of_word (List.mem_filter.mp hw).2⟩
theorem am_code_of {ps mis : List Nat} (h : ps.map (fun i => lw_tbl[i]?) = mis.map (fun mi => some (Cond.code (am_yn mi) (am_by mi) (am_mx mi) (am_rt mi)))) {mi : Nat} (hm : mi ∈ mis) : Cond.code (am_yn mi) (am_by mi) (am_mx mi) (am_rt mi) ∈ am_gT := by
  obtain ⟨k, hk⟩ := List.getElem?_of_mem hm
  have h1 := congrArg (fun z => z[k]?) h
  simp only [List.getElem?_map, hk, Option.map_some] at h1
  cases hp : ps[k]? with
  | none => rw [hp] at h1; cases h1
  | some i =>
    rw [hp] at h1
    exact am_gT_of (i := i) (Option.some.inj h1) rfl
def am_ms0 : List Nat := [0, 1, 2, 3, 4, 5, 6, 7, 8, 9, 10, 11, 12, 13, 14, 15, 16, 17, 18, 19, 20, 21, 22, 23, 24, 25, 26, 27, 28, 29, 30, 31, 32, 33, 34, 35, 36, 37, 38, 39]
def am_ms1 : List Nat := [40, 41, 42, 43, 44, 45, 46, 47, 48, 49, 50, 51, 52, 53, 54, 55, 56, 57, 58, 59, 60, 61, 62, 63, 64, 65, 66, 67, 68, 69, 70, 71, 72, 73, 74, 75, 76, 77, 78, 79]
def am_ms2 : List Nat := [80, 81, 82, 83, 84, 85, 86, 87, 88, 89, 90, 91, 92, 93, 94, 95, 96, 97, 98, 99, 100, 101, 102, 103, 104, 105, 106, 107, 108, 109, 110, 111, 112, 113, 114, 115, 116, 117, 118, 119]
def am_ms3 : List Nat := [120, 121, 122, 123, 124, 125, 126, 127, 128, 129, 130, 131, 132, 133, 134, 135, 136, 137, 138, 139, 140, 141, 142, 143, 144, 145, 146, 147, 148, 149, 150, 151, 152, 153, 154, 155, 156, 157, 158, 159]
def am_ms4 : List Nat := [160, 161, 162, 163, 164, 165, 166, 167, 168, 169, 170, 171, 172, 173, 174, 175, 176, 177, 178, 179, 180, 181, 182, 183, 184, 185, 186, 187, 188, 189, 190, 191, 192, 193, 194, 195, 196, 197, 198, 199]
def am_ms5 : List Nat := [200, 201, 202, 203, 204, 205, 206, 207, 208, 209, 210, 211, 212, 213, 214, 215, 216, 217, 218, 219, 220, 221, 222, 223, 224, 225, 226, 227, 228, 229, 230, 231, 232, 233, 234, 235, 236, 237, 238, 239]
def am_ms6 : List Nat := [240, 241, 242, 243, 244, 245, 246, 247, 248, 249, 250, 251, 252, 253, 254, 255, 256, 257, 258, 259, 260, 261, 263, 264, 265]
theorem am_code_all : ((List.range 266).all fun mi => decide (mi = 262) || (am_ms0.elem mi || (am_ms1.elem mi || (am_ms2.elem mi || (am_ms3.elem mi || (am_ms4.elem mi || (am_ms5.elem mi || (am_ms6.elem mi)))))))) = true := by decide +kernel
theorem am_code_in (mi : Nat) (h : mi < 266) (h2 : mi ≠ 262) : mi ∈ am_ms0 ∨ mi ∈ am_ms1 ∨ mi ∈ am_ms2 ∨ mi ∈ am_ms3 ∨ mi ∈ am_ms4 ∨ mi ∈ am_ms5 ∨ mi ∈ am_ms6 := by
  have h3 := List.all_eq_true.mp am_code_all mi (List.mem_range.mpr h)
  simp only [Bool.or_eq_true, decide_eq_true_eq, List.elem_eq_mem] at h3
  rcases h3 with h3 | h3
  · exact absurd h3 h2
  · exact h3
theorem am_code_ok {mi : Nat} (h : mi < 266) (h2 : mi ≠ 262) : Cond.code (am_yn mi) (am_by mi) (am_mx mi) (am_rt mi) ∈ am_gT := by
  rcases am_code_in mi h h2 with h | h | h | h | h | h | h
  · exact am_code_of am_cd0 h
  · exact am_code_of am_cd1 h
  · exact am_code_of am_cd2 h
  · exact am_code_of am_cd3 h
  · exact am_code_of am_cd4 h
  · exact am_code_of am_cd5 h
  · exact am_code_of am_cd6 h
theorem am_wds_good {mi : Nat} (h : mi < 266) (h2 : mi ≠ 262) : GoodIn am_gT (am_wds mi) := fun w hw => by
  rcases List.mem_cons.mp hw with rfl | hw
  · exact ⟨am_code_ok h h2, good_of_word rfl⟩
  · exact am_gT_good w hw
theorem am_sm_in : ∀ y ∈ am_sm, y < 266 ∧ y ≠ 262 := by decide +kernel
theorem am_im_in : ∀ y ∈ am_im, y < 266 ∧ y ≠ 262 := by decide +kernel
theorem am_vm_in : ∀ y ∈ am_vm, y ∈ am_im := by decide +kernel
theorem am_chk_mx {mi : Nat} (h : am_chk mi = true) : (am_yn mi).cls = am_ocn (am_oc mi) ∧ ((am_yn mi).cls ≠ "java/lang/invoke/MethodHandle" ∧ (am_yn mi).cls ≠ "java/lang/invoke/VarHandle" ∧ (parseMethodDescriptor (am_yn mi).desc).map (fun d => d.parameters.length) = some (am_np mi)) ∧ am_mx mi ≤ 20 ∧ am_oc mi ∈ am_ic := by
  unfold am_chk at h
  simp only [Bool.and_eq_true, decide_eq_true_eq] at h
  obtain ⟨⟨⟨⟨⟨⟨-, h1⟩, -⟩, h2⟩, h3⟩, h4⟩, h5⟩ := h
  exact ⟨h1, ⟨h2.1, h2.2, h3⟩, h4, h5⟩
theorem am_on_oc : ∀ mi, mi < 266 → am_on mi = am_ocn (am_oc mi) := by decide +kernel
theorem am_MR.size {D : va_G} {cy : Nat → ClassId} {Bz : Nat} {ext : Int → Nat} {M : am_M} {H : Heap} (h : am_MR D cy Bz ext M H) (hb : Bz ≤ H.size) : Bz + M.1.toNat ≤ H.size := by
  by_cases h0 : M.1 ≤ 0
  · omega
  · have := (h _ _ (am_ws_at (cy := cy) (Bz := Bz) (ext := ext) (M := M) (a := M.1 - 1) (by omega) (by omega))).lt
    have h2 : Bz + (M.1 - 1).toNat < H.size := this
    omega
