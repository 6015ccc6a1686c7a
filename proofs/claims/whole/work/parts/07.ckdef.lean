/-! THE CHECK of the small machine's code against the bytes (printed by program) -/
/-- links to the JDK: class that links, its entry, which method -/
def am_jn : Nat → MethodName := fun k => match k with
  | 0 => ⟨"java/lang/Object", "<init>", "()V"⟩
  | 1 => ⟨"java/lang/Math", "max", "(II)I"⟩
  | 2 => ⟨"java/lang/Math", "min", "(II)I"⟩
  | 3 => ⟨"java/lang/System", "arraycopy", "(Ljava/lang/Object;ILjava/lang/Object;II)V"⟩
  | 4 => ⟨"java/lang/String", "length", "()I"⟩
  | 5 => ⟨"java/lang/String", "charAt", "(I)C"⟩
  | 6 => ⟨"[I", "clone", "()Ljava/lang/Object;"⟩
  | _ => ⟨"", "", ""⟩
def am_jl : List (Nat × Nat × Nat) := [(0, 3, 0), (4, 3, 0), (7, 3, 0), (1, 5, 0), (2, 3, 0), (3, 5, 0), (6, 3, 0), (1, 90, 1), (1, 81, 2), (3, 86, 2), (3, 71, 4), (3, 76, 5), (5, 1, 0), (10, 316, 6), (10, 304, 2), (10, 150, 3), (7, 28, 3), (0, 351, 2), (2, 54, 2), (2, 165, 1), (2, 183, 3), (4, 62, 3), (8, 1, 0)]
def am_jl_p : List Nat := [133, 141, 149, 262, 279, 338, 387, 528, 543, 637, 651, 661, 790, 794, 801, 802, 828, 874, 954, 1029, 1046, 1141, 1164]
set_option maxRecDepth 100000 in
set_option maxHeartbeats 4000000 in
theorem am_jl_all : ((am_jl).zip am_jl_p).all (fun x => decide (lw_tbl[x.2]? = some (Cond.methodLink (am_ocn x.1.1) x.1.2.1 (am_jn x.1.2.2))) && goodWord (Cond.methodLink (am_ocn x.1.1) x.1.2.1 (am_jn x.1.2.2))) = true ∧ (am_jl).length = am_jl_p.length := by decide +kernel
theorem am_jl_ok {q : Nat × Nat × Nat} (h : q ∈ am_jl) : (Cond.methodLink (am_ocn q.1) q.2.1 (am_jn q.2.2)) ∈ am_gT := by
  obtain ⟨ha, hl⟩ := am_jl_all
  obtain ⟨k, hk⟩ := List.getElem?_of_mem h
  have hlt : k < am_jl_p.length := by rw [← hl]; exact (List.getElem?_eq_some_iff.mp hk).1
  have hz : (q, am_jl_p[k]) ∈ (am_jl).zip am_jl_p := by
    refine List.mem_of_getElem? (i := k) ?_
    rw [List.getElem?_zip_eq_some]
    exact ⟨hk, List.getElem?_eq_getElem hlt⟩
  have h1 := List.all_eq_true.mp ha _ hz
  simp only [Bool.and_eq_true, decide_eq_true_eq] at h1
  exact am_gT_of h1.1 h1.2
/-- entries of the texts in the Reader's pool -/
def am_sr : List Nat := [94, 96, 98, 100, 102, 104, 106, 108, 173, 175, 185, 187, 189, 191, 193, 195, 197, 199, 201, 203, 205, 207, 163, 165, 167, 169, 171, 121, 123, 129, 145, 147, 149, 151, 153, 155, 137, 139, 53]
/-- the texts themselves -/
def am_tx : List (List Int) := [[109, 97, 107, 101, 115], [119, 101, 97, 114, 115], [112, 97, 121, 115], [98, 97, 114, 115], [104, 97, 110, 103], [100, 111, 119, 110], [112, 111, 108, 105, 115, 104], [112, 97, 115, 115], [91], [93], [109, 105, 114, 114, 111, 114], [112, 108, 97, 99, 101], [104, 111, 117, 114], [112, 97, 114, 116], [98, 101, 110, 100], [115, 105, 108, 118, 101, 114], [110, 105, 103, 104, 116], [109, 111, 111, 100], [100, 111, 110, 101], [108, 97, 116, 101, 115, 116], [104, 117, 110, 103], [115, 116, 111, 99, 107], [43], [45], [42], [47], [37], [98, 121], [116, 105, 109, 101, 115], [105, 102], [110, 111, 116], [40], [41], [60], [62], [61], [97, 110, 100], [111, 114], [59]]
/-- how many arguments a method takes, this aside -/
def am_np : Nat → Nat := fun mi => match mi with
  | 0 => 0
  | 1 => 3
  | 2 => 2
  | 3 => 1
  | 4 => 4
  | 5 => 3
  | 6 => 2
  | 7 => 2
  | 8 => 2
  | 9 => 5
  | 10 => 1
  | 11 => 0
  | 12 => 0
  | 13 => 0
  | 14 => 0
  | 15 => 0
  | 16 => 0
  | 17 => 1
  | 18 => 1
  | 19 => 1
  | 20 => 2
  | 21 => 0
  | 22 => 0
  | 23 => 1
  | 24 => 2
  | 25 => 1
  | 26 => 3
  | 27 => 0
  | 28 => 3
  | 29 => 2
  | 30 => 4
  | 31 => 1
  | 32 => 1
  | 33 => 0
  | 34 => 1
  | 35 => 2
  | 36 => 1
  | 37 => 2
  | 38 => 2
  | 39 => 1
  | 40 => 1
  | 41 => 1
  | 42 => 0
  | 43 => 1
  | 44 => 1
  | 45 => 1
  | 46 => 1
  | 47 => 1
  | 48 => 1
  | 49 => 1
  | 50 => 1
  | 51 => 1
  | 52 => 1
  | 53 => 0
  | 54 => 3
  | 55 => 2
  | 56 => 1
  | 57 => 1
  | 58 => 6
  | 59 => 3
  | 60 => 3
  | 61 => 3
  | 62 => 2
  | 63 => 1
  | 64 => 1
  | 65 => 2
  | 66 => 5
  | 67 => 3
  | 68 => 2
  | 69 => 2
  | 70 => 3
  | 71 => 2
  | 72 => 1
  | 73 => 1
  | 74 => 3
  | 75 => 0
  | 76 => 1
  | 77 => 4
  | 78 => 1
  | 79 => 2
  | 80 => 3
  | 81 => 2
  | 82 => 3
  | 83 => 0
  | 84 => 3
  | 85 => 4
  | 86 => 4
  | 87 => 3
  | 88 => 3
  | 89 => 0
  | 90 => 1
  | 91 => 2
  | 92 => 4
  | 93 => 1
  | 94 => 0
  | 95 => 1
  | 96 => 1
  | 97 => 0
  | 98 => 1
  | 99 => 0
  | 100 => 0
  | 101 => 2
  | 102 => 2
  | 103 => 1
  | 104 => 0
  | 105 => 0
  | 106 => 1
  | 107 => 1
  | 108 => 1
  | 109 => 0
  | 110 => 1
  | 111 => 0
  | 112 => 0
  | 113 => 0
  | 114 => 1
  | 115 => 4
  | 116 => 3
  | 117 => 3
  | 118 => 3
  | 119 => 1
  | 120 => 1
  | 121 => 2
  | 122 => 1
  | 123 => 0
  | 124 => 4
  | 125 => 1
  | 126 => 1
  | 127 => 1
  | 128 => 1
  | 129 => 1
  | 130 => 0
  | 131 => 2
  | 132 => 0
  | 133 => 1
  | 134 => 1
  | 135 => 0
  | 136 => 1
  | 137 => 1
  | 138 => 1
  | 139 => 0
  | 140 => 0
  | 141 => 0
  | 142 => 3
  | 143 => 2
  | 144 => 3
  | 145 => 1
  | 146 => 2
  | 147 => 1
  | 148 => 1
  | 149 => 1
  | 150 => 1
  | 151 => 0
  | 152 => 1
  | 153 => 1
  | 154 => 1
  | 155 => 1
  | 156 => 1
  | 157 => 1
  | 158 => 1
  | 159 => 3
  | 160 => 2
  | 161 => 1
  | 162 => 4
  | 163 => 3
  | 164 => 2
  | 165 => 2
  | 166 => 2
  | 167 => 2
  | 168 => 0
  | 169 => 0
  | 170 => 1
  | 171 => 5
  | 172 => 1
  | 173 => 1
  | 174 => 1
  | 175 => 0
  | 176 => 0
  | 177 => 1
  | 178 => 1
  | 179 => 1
  | 180 => 2
  | 181 => 0
  | 182 => 2
  | 183 => 2
  | 184 => 1
  | 185 => 1
  | 186 => 0
  | 187 => 0
  | 188 => 0
  | 189 => 0
  | 190 => 1
  | 191 => 3
  | 192 => 0
  | 193 => 0
  | 194 => 1
  | 195 => 0
  | 196 => 1
  | 197 => 1
  | 198 => 0
  | 199 => 0
  | 200 => 0
  | 201 => 1
  | 202 => 1
  | 203 => 3
  | 204 => 2
  | 205 => 1
  | 206 => 6
  | 207 => 4
  | 208 => 3
  | 209 => 1
  | 210 => 1
  | 211 => 2
  | 212 => 1
  | 213 => 1
  | 214 => 1
  | 215 => 1
  | 216 => 1
  | 217 => 1
  | 218 => 1
  | 219 => 2
  | 220 => 2
  | 221 => 0
  | 222 => 0
  | 223 => 0
  | 224 => 0
  | 225 => 0
  | 226 => 1
  | 227 => 3
  | 228 => 0
  | 229 => 1
  | 230 => 2
  | 231 => 2
  | 232 => 2
  | 233 => 1
  | 234 => 3
  | 235 => 0
  | 236 => 2
  | 237 => 1
  | 238 => 3
  | 239 => 2
  | 240 => 4
  | 241 => 1
  | 242 => 1
  | 243 => 0
  | 244 => 0
  | 245 => 2
  | 246 => 1
  | 247 => 2
  | 248 => 1
  | 249 => 1
  | 250 => 0
  | 251 => 1
  | 252 => 3
  | 253 => 1
  | 254 => 0
  | 255 => 1
  | 256 => 0
  | 257 => 1
  | 258 => 2
  | 259 => 2
  | 260 => 1
  | 261 => 0
  | 262 => 1
  | 263 => 2
  | 264 => 2
  | 265 => 2
  | _ => 0
def am_nf : Nat → Nat := fun c => match c with
  | 0 => 19
  | 1 => 3
  | 2 => 17
  | 3 => 13
  | 4 => 17
  | 5 => 3
  | 6 => 3
  | 7 => 5
  | 8 => 59
  | _ => 0
def am_dc (mi pc : Nat) (i : Instr) (n : Nat) : Bool := decide (decode (am_by mi) pc = .ok (i, n))
def am_tg (k : Nat) : Nat := if k = 1 then 1 else if k = 2 then 2 else 0
def am_i32 (x : Int) : Prop := -2147483648 ≤ x ∧ x ≤ 2147483647
def am_i64 (x : Int) : Prop := -9223372036854775808 ≤ x ∧ x ≤ 9223372036854775807
def am_b32 (x : Int) : Bool := decide (-2147483648 ≤ x ∧ x ≤ 2147483647)
def am_b64 (x : Int) : Bool := decide (-9223372036854775808 ≤ x ∧ x ≤ 9223372036854775807)
def am_cco (x : Int) : ClassFile.Cond := match x with
  | 0 => .eq
  | 1 => .ne
  | 2 => .lt
  | 3 => .ge
  | 4 => .gt
  | _ => .le
def am_kcl (k : Nat) : Nat := if k = 103 then 4 else if k = 104 then 5 else 7
def am_swk (mi pc : Nat) (t : Nat × List (Int × Nat)) : Bool := match decode (am_by mi) pc with
  | .ok (.tableswitch d lo hi offs, _) => decide ((t.1 : Int) = pc + d) && decide (t.2.map (fun q => (q.2 : Int) - pc) = offs.toList) && decide (t.2.map (fun q => q.1) = (List.range offs.size).map (fun (j : Nat) => lo + (j : Int))) && decide (hi = lo + offs.size - 1) && am_b32 lo && am_b32 hi
  | _ => false
def am_flk (mi pc c k w : Nat) (f : Nat → Instr) : Bool := match am_fl[w]? with
  | some q => decide (q.1 = am_oc mi) && decide (q.2.2.1 = c) && decide (q.2.2.2 = k) && am_dc mi pc (f q.2.1) 3 && decide (c < 9) && decide (k < am_nf c)
  | none => false
def am_mlk (mi pc y w : Nat) (f : Nat → Instr) (L : List (Nat × Nat × Nat)) : Bool := match am_ml[w]? with
  | some q => decide (q.1 = am_oc mi) && decide (q.2.2 = y) && decide (q ∈ L) && am_dc mi pc (f q.2.1) 3 && decide (y < 266)
  | none => false
def am_jlk (mi pc w k : Nat) (f : Nat → Instr) : Bool := decide ((am_oc mi, w, k) ∈ am_jl) && am_dc mi pc (f w) 3
def am_ck (mi pc : Nat) (ai : am_I) : Bool := match ai.1 with
  | 0 => am_dc mi pc (.iconst ai.2.1) 1 && am_b32 ai.2.1
  | 1 => am_dc mi pc (.bipush ai.2.1) 2 && am_b32 ai.2.1 && decide ((Int8.ofInt ai.2.1).toInt32 = Int32.ofInt ai.2.1)
  | 2 => am_dc mi pc (.sipush ai.2.1) 3 && am_b32 ai.2.1 && decide ((Int16.ofInt ai.2.1).toInt32 = Int32.ofInt ai.2.1)
  | 3 => (match am_ki[ai.2.2.2.2]? with
    | some q => decide (q.1 = am_oc mi) && decide (q.2.2 = ai.2.1) && am_dc mi pc (.ldc q.2.1) 2 && am_b32 ai.2.1
    | none => false)
  | 7 => (match am_ki[ai.2.2.2.2]? with
    | some q => decide (q.1 = am_oc mi) && decide (q.2.2 = ai.2.1) && am_dc mi pc (.ldc_w q.2.1) 3 && am_b32 ai.2.1
    | none => false)
  | 4 => (match am_kl[ai.2.2.2.2]? with
    | some q => decide (q.1 = am_oc mi) && decide (q.2.2 = ai.2.1) && am_dc mi pc (.ldc2_w q.2.1) 3 && am_b64 ai.2.1
    | none => false)
  | 5 => am_dc mi pc (.lconst (Fin.ofNat 2 ai.2.1.toNat)) 1 && decide (Int64.ofNat (Fin.ofNat 2 ai.2.1.toNat : Fin 2) = Int64.ofInt ai.2.1) && am_b64 ai.2.1
  | 6 => decide (am_oc mi = 3) && decide (ai.2.1 ≤ -10) && decide (am_sr[(-10 - ai.2.1).toNat]? = some ai.2.2.2.2) && am_dc mi pc (.ldc ai.2.2.2.2) 2
  | 8 => am_dc mi pc .aconst_null 1
  | 10 => am_dc mi pc (.iload ai.2.2.1) 2
  | 11 => am_dc mi pc (.iload_n (Fin.ofNat 4 ai.2.2.1)) 1 && decide (ai.2.2.1 < 4)
  | 12 => am_dc mi pc (.lload ai.2.2.1) 2
  | 13 => am_dc mi pc (.lload_n (Fin.ofNat 4 ai.2.2.1)) 1 && decide (ai.2.2.1 < 4)
  | 14 => am_dc mi pc (.aload ai.2.2.1) 2
  | 15 => am_dc mi pc (.aload_n (Fin.ofNat 4 ai.2.2.1)) 1 && decide (ai.2.2.1 < 4)
  | 16 => am_dc mi pc (.istore ai.2.2.1) 2 && decide (ai.2.2.1 < am_mx mi)
  | 17 => am_dc mi pc (.istore_n (Fin.ofNat 4 ai.2.2.1)) 1 && decide (ai.2.2.1 < 4) && decide (ai.2.2.1 < am_mx mi)
  | 18 => am_dc mi pc (.lstore ai.2.2.1) 2 && decide (ai.2.2.1 + 1 < am_mx mi)
  | 19 => am_dc mi pc (.lstore_n (Fin.ofNat 4 ai.2.2.1)) 1 && decide (ai.2.2.1 < 4) && decide (ai.2.2.1 + 1 < am_mx mi)
  | 20 => am_dc mi pc (.astore ai.2.2.1) 2 && decide (ai.2.2.1 < am_mx mi)
  | 21 => am_dc mi pc (.astore_n (Fin.ofNat 4 ai.2.2.1)) 1 && decide (ai.2.2.1 < 4) && decide (ai.2.2.1 < am_mx mi)
  | 22 => am_dc mi pc (.iinc ai.2.2.1 ai.2.1) 3 && decide (ai.2.2.1 < am_mx mi)
  | 23 => am_dc mi pc .dup 1
  | 24 => am_dc mi pc .dup2 1
  | 25 => am_dc mi pc .pop 1
  | 30 => am_dc mi pc .iadd 1
  | 31 => am_dc mi pc .isub 1
  | 32 => am_dc mi pc .imul 1
  | 33 => am_dc mi pc .idiv 1
  | 34 => am_dc mi pc .irem 1
  | 35 => am_dc mi pc .ineg 1
  | 36 => am_dc mi pc .iand 1
  | 37 => am_dc mi pc .ior 1
  | 38 => am_dc mi pc .ixor 1
  | 39 => am_dc mi pc .ishl 1
  | 40 => am_dc mi pc .ishr 1
  | 41 => am_dc mi pc .iushr 1
  | 42 => am_dc mi pc .ladd 1
  | 43 => am_dc mi pc .lsub 1
  | 44 => am_dc mi pc .lmul 1
  | 45 => am_dc mi pc .ldiv 1
  | 46 => am_dc mi pc .lrem 1
  | 47 => am_dc mi pc .lcmp 1
  | 48 => am_dc mi pc .i2l 1
  | 49 => am_dc mi pc .l2i 1
  | 50 => am_dc mi pc (.ifCond (am_cco ai.2.1) ((ai.2.2.1 : Int) - pc)) 3 && decide (0 ≤ ai.2.1 ∧ ai.2.1 ≤ 5)
  | 51 => am_dc mi pc (.if_icmp (am_cco ai.2.1) ((ai.2.2.1 : Int) - pc)) 3 && decide (0 ≤ ai.2.1 ∧ ai.2.1 ≤ 5)
  | 52 => am_dc mi pc (.goto ((ai.2.2.1 : Int) - pc)) 3
  | 54 => am_dc mi pc (.ifnonnull ((ai.2.2.1 : Int) - pc)) 3
  | 55 => am_swk mi pc (am_swt ai.2.2.1)
  | 57 => am_dc mi pc .iaload 1
  | 58 => am_flk mi pc ai.2.2.1 ai.2.2.2.1 ai.2.2.2.2 .putfield && decide (am_sk ai.2.2.1 ai.2.2.2.1 = 3) && decide ((am_Ts ai.2.2.1 ai.2.2.2.1).2.2.2 = false)
  | 59 => am_flk mi pc ai.2.2.1 ai.2.2.2.1 ai.2.2.2.2 .putfield && decide (am_tg (am_sk ai.2.2.1 ai.2.2.2.1) = ai.2.1.toNat) && decide (am_sk ai.2.2.1 ai.2.2.2.1 ≠ 3) && decide ((am_Ts ai.2.2.1 ai.2.2.2.1).2.2.2 = true) && decide ((am_yn mi).name = "<init>") && decide (am_oc mi = ai.2.2.1)
  | 60 => am_flk mi pc ai.2.2.1 ai.2.2.2.1 ai.2.2.2.2 .getfield && decide (am_tg (am_sk ai.2.2.1 ai.2.2.2.1) = ai.2.1.toNat)
  | 61 => am_flk mi pc ai.2.2.1 ai.2.2.2.1 ai.2.2.2.2 .putfield && decide (am_tg (am_sk ai.2.2.1 ai.2.2.2.1) = ai.2.1.toNat) && decide (am_sk ai.2.2.1 ai.2.2.2.1 ≠ 3) && decide ((am_Ts ai.2.2.1 ai.2.2.2.1).2.2.2 = false)
  | 62 => am_dc mi pc .iaload 1
  | 63 => am_dc mi pc .iastore 1
  | 64 => am_dc mi pc .laload 1
  | 65 => am_dc mi pc .lastore 1
  | 66 => am_dc mi pc .baload 1
  | 67 => am_dc mi pc .bastore 1
  | 68 => am_dc mi pc .aaload 1 && decide (103 ≤ ai.2.2.1 ∧ ai.2.2.1 ≤ 105)
  | 69 => am_dc mi pc .aastore 1 && decide (103 ≤ ai.2.2.1 ∧ ai.2.2.1 ≤ 105) && decide (ai.2.2.2.1 = am_kcl ai.2.2.1)
  | 70 => am_dc mi pc .arraylength 1 && decide (ai.2.2.1 = 100 ∨ ai.2.2.1 = 101 ∨ ai.2.2.1 = 110)
  | 71 => (match am_kc[ai.2.2.2.2]? with
    | some q => decide (q.1 = am_oc mi) && decide (q.2.2 = ai.2.2.1) && decide (ai.2.2.2.1 = am_nf ai.2.2.1) && am_dc mi pc (.new q.2.1) 3 && decide (ai.2.2.1 < 9)
    | none => false)
  | 72 => if ai.2.2.1 = 100 then am_dc mi pc (.newarray .int) 2 else if ai.2.2.1 = 101 then am_dc mi pc (.newarray .long) 2 else if ai.2.2.1 = 102 then am_dc mi pc (.newarray .boolean) 2 else false
  | 73 => (match am_kc[ai.2.2.2.2]? with
    | some q => decide (q.1 = am_oc mi) && decide (103 ≤ ai.2.2.1 ∧ ai.2.2.1 ≤ 105) && decide (q.2.2 = am_kcl ai.2.2.1) && am_dc mi pc (.anewarray q.2.1) 3
    | none => false)
  | 74 => am_mlk mi pc ai.2.2.1 ai.2.2.2.2 .invokestatic am_mlA && decide (ai.2.2.1 ∈ am_sm) && decide (am_np ai.2.2.1 = ai.2.2.2.1)
  | 75 => am_mlk mi pc ai.2.2.1 ai.2.2.2.2 .invokevirtual am_mlA && decide (ai.2.2.1 ∈ am_vm) && decide (am_np ai.2.2.1 = ai.2.2.2.1) && decide (am_oc ai.2.2.1 = ai.2.1.toNat) && decide (ai.2.1.toNat < 9)
  | 76 => am_mlk mi pc ai.2.2.1 ai.2.2.2.2 .invokespecial am_mlA && decide (ai.2.2.1 ∈ am_im) && decide (am_np ai.2.2.1 = ai.2.2.2.1) && decide (am_oc ai.2.2.1 = ai.2.1.toNat) && decide ((am_yn ai.2.2.1).name = "<init>") && decide (ai.2.1.toNat < 9)
  | 77 => am_mlk mi pc ai.2.2.1 ai.2.2.2.2 .invokespecial am_mlN && decide (ai.2.2.1 ∈ am_im) && decide (am_np ai.2.2.1 = ai.2.2.2.1) && decide (am_oc ai.2.2.1 = ai.2.1.toNat) && decide ((am_yn ai.2.2.1).name = "<init>") && decide (ai.2.1.toNat < 9)
  | 78 => am_jlk mi pc ai.2.2.2.2 0 .invokespecial
  | 79 => am_jlk mi pc ai.2.2.2.2 1 .invokestatic
  | 80 => am_jlk mi pc ai.2.2.2.2 2 .invokestatic
  | 81 => am_jlk mi pc ai.2.2.2.2 3 .invokestatic
  | 82 => am_jlk mi pc ai.2.2.2.2 4 .invokevirtual
  | 83 => am_jlk mi pc ai.2.2.2.2 5 .invokevirtual
  | 84 => am_jlk mi pc ai.2.2.2.2 6 .invokevirtual
  | 85 => am_dc mi pc (.checkcast 317) 3 && decide (am_oc mi = 10)
  | 90 => am_dc mi pc .ireturn 1 && decide (am_rt mi = some .int)
  | 91 => am_dc mi pc .ireturn 1 && decide (am_rt mi = some .boolean)
  | 92 => am_dc mi pc .lreturn 1 && decide (am_rt mi = some .long)
  | 93 => am_dc mi pc .areturn 1 && decide (am_rt mi = some (.array .int) ∨ am_rt mi = some (.object "NightMirrors$Text"))
  | 94 => am_dc mi pc .return_ 1 && decide (am_rt mi = none)
  | _ => false
def am_chk (mi : Nat) : Bool := (am_cs mi).all (fun ch => ch.2.all (fun q => am_ck mi q.1 q.2)) && decide ((am_yn mi).cls = am_ocn (am_oc mi)) && decide (plainName (am_yn mi).cls = true) && decide ((am_yn mi).cls ≠ "java/lang/invoke/MethodHandle" ∧ (am_yn mi).cls ≠ "java/lang/invoke/VarHandle") && decide ((parseMethodDescriptor (am_yn mi).desc).map (fun d => d.parameters.length) = some (am_np mi)) && decide (am_mx mi ≤ 20) && decide (am_oc mi ∈ am_ic)

