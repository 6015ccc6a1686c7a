/-! THE SMALL MACHINE: a pure machine over whole numbers that runs the same instructions; what it comes to, the real one comes to. -/
/-- a value: 0 an int, 1 a long, 2 a reference (-1 null, from 0 on the cells made here, -2 the script, -10 on the texts of the class), 9 nothing -/
abbrev am_V : Type := Nat × Int
/-- an instruction -/
abbrev am_I : Type := Nat × Int × Nat × Nat × Nat
/-- a memory: how many cells, how many slots, of a cell its kind and length, of a cell's slot what it holds -/
abbrev am_M : Type := Int × Int × (Int → Nat × Int) × (Int → Int → Int)
def am_kd (M : am_M) (a : Int) : Nat := (M.2.2.1 a).1
def am_ln (M : am_M) (a : Int) : Int := (M.2.2.1 a).2
def am_gt (M : am_M) (a i : Int) : Int := M.2.2.2 a i
def am_st (M : am_M) (a i v : Int) : am_M := (M.1, M.2.1, M.2.2.1, fun b j => if b = a ∧ j = i then v else M.2.2.2 b j)
/-- which fields of a class hold references: what a new cell holds there is null -/
def am_rf (c : Nat) : List Int := match c with
  | 0 => [0, 1, 2, 3, 4, 5, 6, 7, 8, 9, 10, 11, 12, 13]
  | 1 => [0, 1, 2]
  | 2 => [0, 1, 2, 3, 4, 5, 6, 7, 8, 9, 10]
  | 3 => [0, 9, 11]
  | 4 => [1, 2, 3, 4, 5, 7, 8, 9, 14, 16]
  | 5 => [1, 2]
  | 6 => [1, 2]
  | 7 => [2, 3, 4]
  | 8 => [2, 3, 4, 5, 6, 7, 9, 10, 12, 22, 24, 25, 27, 28, 31, 32, 33, 35, 36, 37, 41, 42, 43, 44, 45, 46, 47, 48, 49, 50, 51, 57]
  | _ => []
def am_lf (c : Nat) : List Int := match c with
  | 8 => [17, 39, 40, 56]
  | _ => []
def am_zf (c : Nat) : List Int := match c with
  | 2 => [16]
  | 3 => [3, 6]
  | 8 => [19, 20, 38, 55]
  | _ => []
/-- what a slot of a cell is: 0 an int, 1 a long, 2 a reference, 3 a boolean -/
def am_sk (k : Nat) (j : Int) : Nat :=
  if k < 100 then (if j ∈ am_rf k then 2 else if j ∈ am_lf k then 1 else if j ∈ am_zf k then 3 else 0)
  else if k = 101 then 1 else if k = 102 then 3 else if k = 103 ∨ k = 104 ∨ k = 105 then 2 else 0
def am_df (k : Nat) (j : Int) : Int := if am_sk k j = 2 then -1 else 0
def am_nw (M : am_M) (k : Nat) (n : Int) : am_M := (M.1 + 1, M.2.1 + n, fun b => if b = M.1 then (k, n) else M.2.2.1 b, fun b j => if b = M.1 then am_df k j else M.2.2.2 b j)
def am_cp (M : am_M) (a i b j n : Int) : am_M := (M.1, M.2.1, M.2.2.1, fun c k => if c = b ∧ j ≤ k ∧ k < j + n then M.2.2.2 a (k - j + i) else M.2.2.2 c k)
def am_cl (M : am_M) (a : Int) : am_M := (M.1 + 1, M.2.1 + am_ln M a, fun b => if b = M.1 then (100, am_ln M a) else M.2.2.1 b, fun b j => if b = M.1 then M.2.2.2 a j else M.2.2.2 b j)
/-- 32 bits, 64 bits -/
def am_w (x : Int) : Int := (x + 2147483648) % 4294967296 - 2147483648
def am_wl (x : Int) : Int := (x + 9223372036854775808) % 18446744073709551616 - 9223372036854775808
def am_and (a b : Int) : Int := (Int32.ofInt a &&& Int32.ofInt b).toInt
def am_or (a b : Int) : Int := (Int32.ofInt a ||| Int32.ofInt b).toInt
def am_xor (a b : Int) : Int := (Int32.ofInt a ^^^ Int32.ofInt b).toInt
def am_shl (a b : Int) : Int := (Int32.ofInt a <<< (Int32.ofInt b &&& 31)).toInt
def am_shr (a b : Int) : Int := (Int32.ofInt a >>> (Int32.ofInt b &&& 31)).toInt
def am_ushr (a b : Int) : Int := (((Int32.ofInt a).toUInt32 >>> ((Int32.ofInt b).toUInt32 &&& Int32.toUInt32 31)).toInt32).toInt
def am_lcmp (a b : Int) : Int := if a < b then -1 else if a = b then 0 else 1
def am_cond (c : Int) (a b : Int) : Prop := match c with
  | 0 => a = b
  | 1 => a ≠ b
  | 2 => a < b
  | 3 => b ≤ a
  | 4 => b < a
  | _ => a ≤ b
/-- locals: a store, which takes a long away that reaches over it -/
def am_kp (ls : List am_V) : Nat → Bool
  | 0 => false
  | j + 1 => Nat.beq (ls.getD j (9, 0)).1 1
def am_sto (ls : List am_V) (k : Nat) (v : am_V) : List am_V := bif am_kp ls k then (ls.set (k - 1) (9, 0)).set k v else ls.set k v
def am_stl (ls : List am_V) (k : Nat) (v : am_V) : List am_V := (am_sto ls k v).set (k + 1) (9, 0)
def am_cat (v : am_V) : Nat := bif Nat.beq v.1 1 then 2 else 1
def am_cw (st : List am_V) : Nat := (st.map am_cat).sum
/-- the arguments as locals -/
def am_lay : List am_V → List am_V
  | [] => []
  | v :: vs => bif Nat.beq v.1 1 then v :: (9, 0) :: am_lay vs else v :: am_lay vs
def am_ent (n : Nat) (args : List am_V) : List am_V := am_lay args ++ List.replicate (n - (am_lay args).length) (9, 0)
/-- a switch's roads -/
def am_sw (K : Nat → Prop) (v : Int) (dflt : Nat) : List (Int × Nat) → Prop
  | [] => K dflt
  | q :: qs => (v = q.1 → K q.2) ∧ (¬ v = q.1 → am_sw K v dflt qs)
/-- one instruction: K goes on, C calls, Q ends -/
def am_body (sw : Nat → Nat × List (Int × Nat)) (d : Nat) (ai : am_I) (pc : Nat) (ls st : List am_V) (M : am_M) (K : Nat → List am_V → List am_V → am_M → Prop) (C : Nat → List am_V → am_M → (List am_V → am_M → Prop) → Prop) (Q : List am_V → am_M → Prop) : Prop :=
  match ai.1 with
  | 0 => K (pc + 1) ls ((0, ai.2.1) :: st) M
  | 1 => K (pc + 2) ls ((0, ai.2.1) :: st) M
  | 2 => K (pc + 3) ls ((0, ai.2.1) :: st) M
  | 3 => K (pc + 2) ls ((0, ai.2.1) :: st) M
  | 7 => K (pc + 3) ls ((0, ai.2.1) :: st) M
  | 4 => K (pc + 3) ls ((1, ai.2.1) :: st) M
  | 5 => K (pc + 1) ls ((1, ai.2.1) :: st) M
  | 6 => K (pc + 2) ls ((2, ai.2.1) :: st) M
  | 8 => K (pc + 1) ls ((2, -1) :: st) M
  | 10 => match ls.getD ai.2.2.1 (9, 0) with
    | (0, v) => K (pc + 2) ls ((0, v) :: st) M
    | _ => False
  | 11 => match ls.getD ai.2.2.1 (9, 0) with
    | (0, v) => K (pc + 1) ls ((0, v) :: st) M
    | _ => False
  | 12 => match ls.getD ai.2.2.1 (9, 0) with
    | (1, v) => K (pc + 2) ls ((1, v) :: st) M
    | _ => False
  | 13 => match ls.getD ai.2.2.1 (9, 0) with
    | (1, v) => K (pc + 1) ls ((1, v) :: st) M
    | _ => False
  | 14 => match ls.getD ai.2.2.1 (9, 0) with
    | (2, v) => K (pc + 2) ls ((2, v) :: st) M
    | _ => False
  | 15 => match ls.getD ai.2.2.1 (9, 0) with
    | (2, v) => K (pc + 1) ls ((2, v) :: st) M
    | _ => False
  | 16 => match st with
    | (0, v) :: s => K (pc + 2) (am_sto ls ai.2.2.1 (0, v)) s M
    | _ => False
  | 17 => match st with
    | (0, v) :: s => K (pc + 1) (am_sto ls ai.2.2.1 (0, v)) s M
    | _ => False
  | 18 => match st with
    | (1, v) :: s => K (pc + 2) (am_stl ls ai.2.2.1 (1, v)) s M
    | _ => False
  | 19 => match st with
    | (1, v) :: s => K (pc + 1) (am_stl ls ai.2.2.1 (1, v)) s M
    | _ => False
  | 20 => match st with
    | (2, v) :: s => K (pc + 2) (am_sto ls ai.2.2.1 (2, v)) s M
    | _ => False
  | 21 => match st with
    | (2, v) :: s => K (pc + 1) (am_sto ls ai.2.2.1 (2, v)) s M
    | _ => False
  | 22 => match ls.getD ai.2.2.1 (9, 0) with
    | (0, v) => K (pc + 3) (am_sto ls ai.2.2.1 (0, am_w (v + ai.2.1))) st M
    | _ => False
  | 23 => match st with
    | (0, v) :: s => K (pc + 1) ls ((0, v) :: (0, v) :: s) M
    | (2, v) :: s => K (pc + 1) ls ((2, v) :: (2, v) :: s) M
    | _ => False
  | 24 => match st with
    | (0, i) :: (2, a) :: s => K (pc + 1) ls ((0, i) :: (2, a) :: (0, i) :: (2, a) :: s) M
    | _ => False
  | 25 => match st with
    | (0, _) :: s => K (pc + 1) ls s M
    | (2, _) :: s => K (pc + 1) ls s M
    | _ => False
  | 30 => match st with
    | (0, b) :: (0, a) :: s => K (pc + 1) ls ((0, am_w (a + b)) :: s) M
    | _ => False
  | 31 => match st with
    | (0, b) :: (0, a) :: s => K (pc + 1) ls ((0, am_w (a - b)) :: s) M
    | _ => False
  | 32 => match st with
    | (0, b) :: (0, a) :: s => K (pc + 1) ls ((0, am_w (a * b)) :: s) M
    | _ => False
  | 33 => match st with
    | (0, b) :: (0, a) :: s => b ≠ 0 ∧ K (pc + 1) ls ((0, am_w (a.tdiv b)) :: s) M
    | _ => False
  | 34 => match st with
    | (0, b) :: (0, a) :: s => b ≠ 0 ∧ K (pc + 1) ls ((0, a.tmod b) :: s) M
    | _ => False
  | 35 => match st with
    | (0, a) :: s => K (pc + 1) ls ((0, am_w (-a)) :: s) M
    | _ => False
  | 36 => match st with
    | (0, b) :: (0, a) :: s => K (pc + 1) ls ((0, am_and a b) :: s) M
    | _ => False
  | 37 => match st with
    | (0, b) :: (0, a) :: s => K (pc + 1) ls ((0, am_or a b) :: s) M
    | _ => False
  | 38 => match st with
    | (0, b) :: (0, a) :: s => K (pc + 1) ls ((0, am_xor a b) :: s) M
    | _ => False
  | 39 => match st with
    | (0, b) :: (0, a) :: s => K (pc + 1) ls ((0, am_shl a b) :: s) M
    | _ => False
  | 40 => match st with
    | (0, b) :: (0, a) :: s => K (pc + 1) ls ((0, am_shr a b) :: s) M
    | _ => False
  | 41 => match st with
    | (0, b) :: (0, a) :: s => K (pc + 1) ls ((0, am_ushr a b) :: s) M
    | _ => False
  | 42 => match st with
    | (1, b) :: (1, a) :: s => K (pc + 1) ls ((1, am_wl (a + b)) :: s) M
    | _ => False
  | 43 => match st with
    | (1, b) :: (1, a) :: s => K (pc + 1) ls ((1, am_wl (a - b)) :: s) M
    | _ => False
  | 44 => match st with
    | (1, b) :: (1, a) :: s => K (pc + 1) ls ((1, am_wl (a * b)) :: s) M
    | _ => False
  | 45 => match st with
    | (1, b) :: (1, a) :: s => b ≠ 0 ∧ K (pc + 1) ls ((1, am_wl (a.tdiv b)) :: s) M
    | _ => False
  | 46 => match st with
    | (1, b) :: (1, a) :: s => b ≠ 0 ∧ K (pc + 1) ls ((1, a.tmod b) :: s) M
    | _ => False
  | 47 => match st with
    | (1, b) :: (1, a) :: s => K (pc + 1) ls ((0, am_lcmp a b) :: s) M
    | _ => False
  | 48 => match st with
    | (0, a) :: s => K (pc + 1) ls ((1, a) :: s) M
    | _ => False
  | 49 => match st with
    | (1, a) :: s => K (pc + 1) ls ((0, am_w a) :: s) M
    | _ => False
  | 50 => match st with
    | (0, a) :: s => (am_cond ai.2.1 a 0 → K ai.2.2.1 ls s M) ∧ (¬ am_cond ai.2.1 a 0 → K (pc + 3) ls s M)
    | _ => False
  | 51 => match st with
    | (0, b) :: (0, a) :: s => (am_cond ai.2.1 a b → K ai.2.2.1 ls s M) ∧ (¬ am_cond ai.2.1 a b → K (pc + 3) ls s M)
    | _ => False
  | 52 => K ai.2.2.1 ls st M
  | 54 => match st with
    | (2, a) :: s => (a ≠ -1 → K ai.2.2.1 ls s M) ∧ (a = -1 → K (pc + 3) ls s M)
    | _ => False
  | 55 => match st with
    | (0, a) :: s => am_sw (fun t => K t ls s M) a (sw ai.2.2.1).1 (sw ai.2.2.1).2
    | _ => False
  | 57 => match st with
    | (0, i) :: (2, a) :: s => am_kd M a = 110 ∧ 0 ≤ i ∧ i < am_ln M a ∧ K (pc + 1) ls ((0, am_gt M a i) :: s) M
    | _ => False
  | 58 => match st with
    | (0, v) :: (2, a) :: s => am_kd M a = ai.2.2.1 ∧ (v = 0 ∨ v = 1) ∧ K (pc + 3) ls s (am_st M a ai.2.2.2.1 v)
    | _ => False
  | 59 => match st with
    | (t, v) :: (2, a) :: s => bif Nat.beq t ai.2.1.toNat then am_kd M a = ai.2.2.1 ∧ K (pc + 3) ls s (am_st M a ai.2.2.2.1 v) else False
    | _ => False
  | 60 => match st with
    | (2, a) :: s => am_kd M a = ai.2.2.1 ∧ K (pc + 3) ls ((ai.2.1.toNat, am_gt M a ai.2.2.2.1) :: s) M
    | _ => False
  | 61 => match st with
    | (t, v) :: (2, a) :: s => bif Nat.beq t ai.2.1.toNat then am_kd M a = ai.2.2.1 ∧ K (pc + 3) ls s (am_st M a ai.2.2.2.1 v) else False
    | _ => False
  | 62 => match st with
    | (0, i) :: (2, a) :: s => am_kd M a = 100 ∧ 0 ≤ i ∧ i < am_ln M a ∧ K (pc + 1) ls ((0, am_gt M a i) :: s) M
    | _ => False
  | 63 => match st with
    | (0, v) :: (0, i) :: (2, a) :: s => am_kd M a = 100 ∧ 0 ≤ i ∧ i < am_ln M a ∧ K (pc + 1) ls s (am_st M a i v)
    | _ => False
  | 64 => match st with
    | (0, i) :: (2, a) :: s => am_kd M a = 101 ∧ 0 ≤ i ∧ i < am_ln M a ∧ K (pc + 1) ls ((1, am_gt M a i) :: s) M
    | _ => False
  | 65 => match st with
    | (1, v) :: (0, i) :: (2, a) :: s => am_kd M a = 101 ∧ 0 ≤ i ∧ i < am_ln M a ∧ K (pc + 1) ls s (am_st M a i v)
    | _ => False
  | 66 => match st with
    | (0, i) :: (2, a) :: s => am_kd M a = 102 ∧ 0 ≤ i ∧ i < am_ln M a ∧ K (pc + 1) ls ((0, am_gt M a i) :: s) M
    | _ => False
  | 67 => match st with
    | (0, v) :: (0, i) :: (2, a) :: s => am_kd M a = 102 ∧ 0 ≤ i ∧ i < am_ln M a ∧ (v = 0 ∨ v = 1) ∧ K (pc + 1) ls s (am_st M a i v)
    | _ => False
  | 68 => match st with
    | (0, i) :: (2, a) :: s => am_kd M a = ai.2.2.1 ∧ 0 ≤ i ∧ i < am_ln M a ∧ K (pc + 1) ls ((2, am_gt M a i) :: s) M
    | _ => False
  | 69 => match st with
    | (2, v) :: (0, i) :: (2, a) :: s => am_kd M a = ai.2.2.1 ∧ 0 ≤ i ∧ i < am_ln M a ∧ (v = -1 ∨ am_kd M v = ai.2.2.2.1) ∧ K (pc + 1) ls s (am_st M a i v)
    | _ => False
  | 70 => match st with
    | (2, a) :: s => am_kd M a = ai.2.2.1 ∧ K (pc + 1) ls ((0, am_ln M a) :: s) M
    | _ => False
  | 71 => K (pc + 3) ls ((2, M.1) :: st) (am_nw M ai.2.2.1 (ai.2.2.2.1 : Int))
  | 72 => match st with
    | (0, n) :: s => 0 ≤ n ∧ n ≤ 65536 ∧ K (pc + 2) ls ((2, M.1) :: s) (am_nw M ai.2.2.1 n)
    | _ => False
  | 73 => match st with
    | (0, n) :: s => 0 ≤ n ∧ n ≤ 65536 ∧ K (pc + 3) ls ((2, M.1) :: s) (am_nw M ai.2.2.1 n)
    | _ => False
  | 74 => bif Nat.ble ai.2.2.2.1 st.length && Nat.ble (am_cw (st.drop ai.2.2.2.1)) 8 then C ai.2.2.1 (st.take ai.2.2.2.1).reverse M (fun r M' => K (pc + 3) ls (r ++ st.drop ai.2.2.2.1) M') else False
  | 75 => bif Nat.ble (ai.2.2.2.1 + 1) st.length && Nat.ble (am_cw (st.drop (ai.2.2.2.1 + 1))) 8 then (match st.getD ai.2.2.2.1 (9, 0) with
    | (2, a) => am_kd M a = ai.2.1.toNat ∧ C ai.2.2.1 (st.take (ai.2.2.2.1 + 1)).reverse M (fun r M' => K (pc + 3) ls (r ++ st.drop (ai.2.2.2.1 + 1)) M')
    | _ => False) else False
  | 76 => bif Nat.ble (ai.2.2.2.1 + 1) st.length && Nat.ble (am_cw (st.drop (ai.2.2.2.1 + 1))) 8 then (match st.getD ai.2.2.2.1 (9, 0) with
    | (2, a) => am_kd M a = ai.2.1.toNat ∧ C ai.2.2.1 (st.take (ai.2.2.2.1 + 1)).reverse M (fun r M' => K (pc + 3) ls (r ++ st.drop (ai.2.2.2.1 + 1)) M')
    | _ => False) else False
  | 77 => bif Nat.ble (ai.2.2.2.1 + 1) st.length && Nat.ble (am_cw (st.drop (ai.2.2.2.1 + 1))) 8 then (match st.getD ai.2.2.2.1 (9, 0) with
    | (2, a) => am_kd M a = ai.2.1.toNat ∧ C ai.2.2.1 (st.take (ai.2.2.2.1 + 1)).reverse M (fun r M' => K (pc + 3) ls (r ++ st.drop (ai.2.2.2.1 + 1)) M')
    | _ => False) else False
  | 78 => match st with
    | (2, a) :: s => a ≠ -1 ∧ 1 ≤ d ∧ (bif Nat.ble (am_cw s) 8 then K (pc + 3) ls s M else False)
    | _ => False
  | 79 => match st with
    | (0, b) :: (0, a) :: s => 1 ≤ d ∧ (bif Nat.ble (am_cw s) 8 then K (pc + 3) ls ((0, max a b) :: s) M else False)
    | _ => False
  | 80 => match st with
    | (0, b) :: (0, a) :: s => 1 ≤ d ∧ (bif Nat.ble (am_cw s) 8 then K (pc + 3) ls ((0, min a b) :: s) M else False)
    | _ => False
  | 81 => match st with
    | (0, n) :: (0, j) :: (2, b) :: (0, i) :: (2, a) :: s => 1 ≤ d ∧ am_kd M a = 100 ∧ am_kd M b = 100 ∧ 0 ≤ n ∧ 0 ≤ i ∧ 0 ≤ j ∧ i + n ≤ am_ln M a ∧ j + n ≤ am_ln M b ∧ (bif Nat.ble (am_cw s) 8 then K (pc + 3) ls s (am_cp M a i b j n) else False)
    | _ => False
  | 82 => match st with
    | (2, a) :: s => 4 ≤ d ∧ am_kd M a = 111 ∧ (bif Nat.ble (am_cw s) 8 then K (pc + 3) ls ((0, am_ln M a) :: s) M else False)
    | _ => False
  | 83 => match st with
    | (0, i) :: (2, a) :: s => 4 ≤ d ∧ am_kd M a = 111 ∧ 0 ≤ i ∧ i < am_ln M a ∧ (bif Nat.ble (am_cw s) 8 then K (pc + 3) ls ((0, am_gt M a i) :: s) M else False)
    | _ => False
  | 84 => match st with
    | (2, a) :: s => 1 ≤ d ∧ am_kd M a = 100 ∧ 0 ≤ am_ln M a ∧ (bif Nat.ble (am_cw s) 8 then K (pc + 3) ls ((2, M.1) :: s) (am_cl M a) else False)
    | _ => False
  | 85 => match st with
    | (2, a) :: s => am_kd M a = 100 ∧ K (pc + 3) ls ((2, a) :: s) M
    | _ => False
  | 90 => match st with
    | [(0, v)] => Q [(0, v)] M
    | _ => False
  | 91 => match st with
    | [(0, v)] => (v = 0 ∨ v = 1) ∧ Q [(0, v)] M
    | _ => False
  | 92 => match st with
    | [(1, v)] => Q [(1, v)] M
    | _ => False
  | 93 => match st with
    | [(2, v)] => Q [(2, v)] M
    | _ => False
  | 94 => match st with
    | [] => Q [] M
    | _ => False
  | _ => False
