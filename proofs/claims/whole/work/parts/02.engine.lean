-- THE ABSTRACT MACHINE: values are integers with a tag, the heap is a table of rows of integers
abbrev AV : Type := Int ⊕ Int ⊕ (Nat × Nat × Nat) ⊕ Unit
abbrev Hp : Type := Nat → Nat → Int
/-- a contract: how many arguments, the receiver's class and 1 (0: static, 100: a String), what it answers (0 nothing, 1 an int, 2 a boolean, 3 a cell), the answer's kind, before, behind -/
abbrev Ct : Type := Nat × Nat × Nat × (Nat × Nat) × (List AV → Hp → Prop) × (List AV → Hp → Int → Hp → Prop)
abbrev Item : Type := Instr × Nat × List Nat × List (Int × Nat)
abbrev ax_i (x : Int) : AV := .inl x
abbrev ax_l (x : Int) : AV := .inr (.inl x)
abbrev ax_r (k t n : Nat) : AV := .inr (.inr (.inl (k, t, n)))
abbrev ax_u : AV := .inr (.inr (.inr ()))
def wr (x : Int) : Int := (x + 2147483648) % 4294967296 - 2147483648
def iAnd (a b : Int) : Int := (Int32.ofInt a &&& Int32.ofInt b).toInt
def iOr (a b : Int) : Int := (Int32.ofInt a ||| Int32.ofInt b).toInt
def iXor (a b : Int) : Int := (Int32.ofInt a ^^^ Int32.ofInt b).toInt
def iShl (a b : Int) : Int := (Int32.ofInt a <<< (Int32.ofInt b &&& 31)).toInt
def iShr (a b : Int) : Int := (Int32.ofInt a >>> (Int32.ofInt b &&& 31)).toInt
def iUsh (a b : Int) : Int := ((Int32.ofInt a).toUInt32 >>> ((Int32.ofInt b).toUInt32 &&& Int32.toUInt32 31)).toInt32.toInt
def iDiv (a b : Int) : Int := (Int32.ofInt a / Int32.ofInt b).toInt
def iRem (a b : Int) : Int := (Int32.ofInt a - Int32.ofInt a / Int32.ofInt b * Int32.ofInt b).toInt
def iByte (a : Int) : Int := (Int32.ofInt a).toInt8.toInt32.toInt
def iChar (a : Int) : Int := ((Int32.ofInt a).toUInt32 % 65536).toInt32.toInt
def lOr (a b : Int) : Int := (Int64.ofInt a ||| Int64.ofInt b).toInt
def lShl (a b : Int) : Int := (Int64.ofInt a <<< ((Int32.ofInt b).toInt64 &&& 63)).toInt
def lCmp (a b : Int) : Int := if a < b then -1 else if a = b then 0 else 1
def hp (σ : Hp) (k j : Nat) (v : Int) : Hp := fun k' => if k' = k then (fun j' => if j' = j then v else σ k j') else σ k'
def R32 (x : Int) : Prop := -2147483648 ≤ x ∧ x < 2147483648
def R64 (x : Int) : Prop := -9223372036854775808 ≤ x ∧ x < 9223372036854775808
def ax_get : List AV → Nat → AV
  | [], _ => .inr (.inr (.inr ()))
  | v :: _, 0 => v
  | _ :: l, k + 1 => ax_get l k
def ax_set : List AV → Nat → AV → List AV
  | [], _, _ => []
  | _ :: l, 0, x => x :: l
  | v :: l, k + 1, x => v :: ax_set l k x
def ax_isL (v : AV) : Bool := match v with
  | .inr (.inl _) => true
  | _ => false
def ax_isU (v : AV) : Bool := match v with
  | .inr (.inr (.inr _)) => true
  | _ => false
/-- is place k the second half of a long -/
def ax_half (ls : List AV) (k : Nat) : Bool := match k with
  | 0 => false
  | k + 1 => ax_isL (ax_get ls k)
def ax_cmp (c : ClassFile.Cond) (a b : Int) : Prop := match c with
  | .eq => a = b
  | .ne => ¬ a = b
  | .lt => a < b
  | .ge => b ≤ a
  | .gt => b < a
  | .le => a ≤ b
def ax_tg (tg : List Nat) : Nat := match tg with
  | [] => 0
  | p :: _ => p
def ax_kv (tg : List (Int × Nat)) : Int := match tg with
  | [] => 0
  | p :: _ => p.1
/-- a switch: the targets by values, the default last -/
def ax_sw (K : Nat → Prop) (x : Int) : List (Int × Nat) → Prop
  | [] => False
  | [p] => K p.2
  | p :: q :: r => (x = p.1 → K p.2) ∧ (¬ x = p.1 → ax_sw K x (q :: r))
/-- the kinds of the cells: (0, class), (1, n) int[n], (2, n) byte[n], (3, n) boolean[n], (4, n) long[n] -/
def ax_kdL : List (Nat × Nat) := [(0, 8), (0, 5), (2, 1600), (0, 4), (0, 7), (1, 6), (1, 6), (1, 12), (1, 12), (1, 6), (1, 384), (1, 100), (1, 6), (1, 6), (0, 3), (1, 656), (0, 0), (1, 48), (3, 3), (0, 6), (1, 30), (1, 30), (3, 30), (1, 30), (1, 30), (0, 7), (1, 6), (1, 6), (2, 1000), (3, 100), (1, 7), (0, 7), (1, 6), (1, 6), (1, 6), (0, 1), (4, 6), (1, 6), (1, 6), (1, 6), (1, 6), (1, 6), (1, 6), (0, 2), (1, 280), (1, 5), (1, 30), (0, 2), (1, 280), (1, 5), (1, 30), (0, 1), (4, 6), (1, 6), (1, 6), (1, 6), (1, 6), (1, 6), (1, 6), (0, 2), (1, 280), (1, 5), (1, 30), (0, 2), (1, 280), (1, 5), (1, 30), (0, 9), (1, 1600), (4, 6), (1, 640), (1, 640), (1, 2), (1, 640), (1, 640), (1, 2), (1, 160), (1, 64), (3, 2), (1, 5), (1, 6), (1, 6), (1, 6), (1, 6), (1, 6), (1, 6), (1, 6), (1, 6), (1, 6), (1, 6), (1, 16), (1, 16), (1, 6), (1, 640), (1, 12), (1, 12), (1, 6), (1, 6), (1, 100), (1, 30), (1, 30), (1, 30), (1, 30), (3, 30), (1, 1000), (3, 100), (3, 3), (1, 48)]
def ax_N : Nat := 108
def ax_kd (k : Nat) : Nat × Nat := ax_kdL.getD k (99, 0)
/-- the fields: (type, offset, kind): 0 int, 1 boolean, 2 long, 3 char, 4 a cell at an offset, 5 a cell that changes -/
def ax_F : Nat → List (Nat × Nat × Nat × Nat) := fun c => match c with
  | 0 => [(4, 1, 1, 48), (4, 2, 3, 3)]
  | 1 => [(4, 1, 4, 6), (4, 2, 1, 6), (4, 3, 1, 6), (4, 4, 1, 6), (4, 5, 1, 6), (4, 6, 1, 6), (4, 7, 1, 6), (4, 8, 0, 2), (4, 12, 0, 2), (0, 0, 0, 0), (0, 0, 0, 0), (0, 0, 0, 0), (0, 0, 0, 0), (0, 0, 0, 0), (0, 0, 0, 0), (1, 0, 0, 0), (1, 0, 0, 0)]
  | 2 => [(4, 1, 1, 280), (4, 2, 1, 5), (4, 3, 1, 30), (0, 0, 0, 0), (0, 0, 0, 0), (1, 0, 0, 0)]
  | 3 => [(4, 1, 1, 656), (0, 0, 0, 0), (0, 0, 0, 0), (0, 0, 0, 0)]
  | 4 => [(4, 1, 0, 7), (4, 4, 1, 12), (4, 5, 1, 12), (4, 6, 1, 6), (4, 7, 1, 384), (4, 8, 1, 100), (4, 9, 1, 6), (4, 10, 1, 6), (0, 0, 0, 0), (0, 0, 0, 0)]
  | 5 => [(4, 1, 2, 1600), (0, 0, 0, 0), (0, 0, 0, 0), (0, 0, 0, 0), (0, 0, 0, 0), (0, 0, 0, 0), (0, 0, 0, 0), (2, 0, 0, 0), (0, 0, 0, 0), (3, 0, 0, 0)]
  | 6 => [(4, 1, 1, 30), (4, 2, 1, 30), (4, 3, 3, 30), (4, 4, 1, 30), (4, 5, 1, 30), (4, 6, 0, 7), (4, 9, 2, 1000), (4, 10, 3, 100), (4, 11, 1, 7), (0, 0, 0, 0), (1, 0, 0, 0)]
  | 7 => [(4, 1, 1, 6), (4, 2, 1, 6), (0, 0, 0, 0), (0, 0, 0, 0), (0, 0, 0, 0), (1, 0, 0, 0)]
  | 8 => [(4, 1, 0, 5), (4, 3, 0, 4), (4, 14, 0, 3), (4, 16, 0, 0), (4, 19, 0, 6), (4, 31, 0, 7), (4, 34, 1, 6), (0, 0, 0, 0), (5, 0, 0, 1), (5, 0, 0, 1), (0, 0, 0, 0)]
  | 9 => [(4, 1, 1, 1600), (0, 0, 0, 0), (0, 0, 0, 0), (0, 0, 0, 0), (0, 0, 0, 0), (0, 0, 0, 0), (0, 0, 0, 0), (0, 0, 0, 0), (0, 0, 0, 0), (2, 0, 0, 0), (4, 2, 4, 6), (4, 3, 1, 640), (4, 4, 1, 640), (4, 5, 1, 2), (4, 6, 1, 640), (4, 7, 1, 640), (4, 8, 1, 2), (4, 9, 1, 160), (4, 10, 1, 64), (4, 11, 3, 2), (0, 0, 0, 0), (0, 0, 0, 0), (0, 0, 0, 0), (0, 0, 0, 0), (0, 0, 0, 0), (0, 0, 0, 0), (4, 12, 1, 5), (4, 13, 1, 6), (4, 14, 1, 6), (4, 15, 1, 6), (4, 16, 1, 6), (4, 17, 1, 6), (4, 18, 1, 6), (4, 19, 1, 6), (4, 20, 1, 6), (4, 21, 1, 6), (4, 22, 1, 6), (0, 0, 0, 0), (0, 0, 0, 0), (0, 0, 0, 0), (0, 0, 0, 0), (0, 0, 0, 0), (0, 0, 0, 0), (0, 0, 0, 0), (1, 0, 0, 0), (1, 0, 0, 0), (4, 23, 1, 16), (4, 24, 1, 16), (4, 25, 1, 6), (4, 26, 1, 640), (0, 0, 0, 0), (0, 0, 0, 0), (4, 27, 1, 12), (4, 28, 1, 12), (4, 29, 1, 6), (4, 30, 1, 6), (0, 0, 0, 0), (0, 0, 0, 0), (4, 31, 1, 100), (4, 32, 1, 30), (4, 33, 1, 30), (4, 34, 1, 30), (4, 35, 1, 30), (4, 36, 3, 30), (0, 0, 0, 0), (0, 0, 0, 0), (4, 37, 1, 1000), (4, 38, 3, 100), (4, 39, 3, 3), (4, 40, 1, 48)]
  | _ => []
def ax_fd (c j : Nat) : Nat × Nat × Nat × Nat := (ax_F c).getD j (99, 0, 0, 0)
def ax_R : Nat → String := fun c => match c with
  | 0 => RX0
  | 1 => RX1
  | 2 => RX2
  | 3 => RX3
  | 4 => RX4
  | 5 => RX5
  | 6 => RX6
  | 7 => RX7
  | 8 => RX8
  | 9 => RX9
  | 10 => RL
  | 11 => RJ11
  | 12 => RJ6
  | 13 => RJ9
  | 14 => RJ0
  | 15 => RJ1
  | 16 => RJ2
  | 17 => RJ3
  | _ => ""
def ax_T : Nat → u_T := fun c => match c with
  | 0 => TX0
  | 1 => TX1
  | 2 => TX2
  | 3 => TX3
  | 4 => TX4
  | 5 => TX5
  | 6 => TX6
  | 7 => TX7
  | 8 => TX8
  | _ => TX9
def ax_ty : Nat → Nat → FieldType := fun c => match c with
  | 0 => tyX0
  | 1 => tyX1
  | 2 => tyX2
  | 3 => tyX3
  | 4 => tyX4
  | 5 => tyX5
  | 6 => tyX6
  | 7 => tyX7
  | 8 => tyX8
  | _ => tyX9
def ax_nnL : List Int := [123581014175598, 28518, 426836649331, 1852143475, 461414299507, 512970879609, 444301539187, 1700885349, 1685217655, 28530, 6385252, 7237492, 1667330661, 461414299502, 6840691, 448546567013, 6578553]
def ax_nn (j : Nat) : Int := ax_nnL.getD j 0
def ax_sgL : List Int := [59, 40, 41, 60, 62, 61, 43, 45, 42, 47, 37]
def ax_sg (j : Nat) : Int := ax_sgL.getD j 0
/-- what a field read gives: ty the field's type, o its offset, t n its kind -/
def ax_rd (ty o t n k j : Nat) (σ : Hp) : AV := match ty with
  | 2 => .inr (.inl (σ k j))
  | 4 => .inr (.inr (.inl (k + o, t, n)))
  | 5 => .inr (.inr (.inl ((σ k j).toNat, t, n)))
  | _ => .inl (σ k j)
/-- what a field write does -/
def ax_wt (ty n k j : Nat) (v : AV) (σ : Hp) (P : Hp → Prop) : Prop := match ty with
  | 0 => (match v with
    | .inl x => ∀ σ' : Hp, σ' = hp σ k j x → P σ'
    | _ => False)
  | 1 => (match v with
    | .inl x => (x = 0 ∨ x = 1) ∧ ∀ σ' : Hp, σ' = hp σ k j x → P σ'
    | _ => False)
  | 2 => (match v with
    | .inr (.inl x) => ∀ σ' : Hp, σ' = hp σ k j x → P σ'
    | _ => False)
  | 3 => (match v with
    | .inl x => (0 ≤ x ∧ x ≤ 65535) ∧ ∀ σ' : Hp, σ' = hp σ k j x → P σ'
    | _ => False)
  | 5 => (match v with
    | .inr (.inr (.inl (k', 0, n'))) => bif Nat.beq n' n then (∀ σ' : Hp, σ' = hp σ k j k' → P σ') else False
    | _ => False)
  | _ => False
/-- what an array read gives, t the array's kind -/
def ax_ard (fx : Nat → Int) (t k j : Nat) (σ : Hp) : AV := match t with
  | 4 => .inr (.inl (σ k j))
  | 6 => .inl (ax_sg j)
  | 7 => .inl (fx j)
  | 8 => .inr (.inl (ax_nn j))
  | _ => .inl (σ k j)
/-- the result of a call comes on the stack -/
def ax_res (rk : Nat) (tn : Nat × Nat) (Po : Int → Hp → Prop) (N : List AV → Hp → Prop) (st : List AV) : Prop := match rk with
  | 0 => ∀ σ' : Hp, Po 0 σ' → N st σ'
  | 3 => ∀ (r : Nat) (σ' : Hp), Po (r : Int) σ' → N (.inr (.inr (.inl (r, tn.1, tn.2))) :: st) σ'
  | _ => ∀ (r : Int) (σ' : Hp), Po r σ' → N (.inl r :: st) σ'
def ax_cats : List AV → Nat
  | [] => 0
  | .inr (.inl _) :: r => 2 + ax_cats r
  | _ :: r => 1 + ax_cats r
def ax_rcv (rc : Nat) (as : List AV) : Bool := match rc with
  | 0 => true
  | rc + 1 => (match as with
    | .inr (.inr (.inl (_, 0, c))) :: _ => Nat.beq c rc
    | .inr (.inr (.inl (_, 9, _))) :: _ => Nat.beq rc 99
    | _ => false)
def ax_call (cs : Ct) (N : List AV → Hp → Prop) (st : List AV) (σ : Hp) : Prop :=
  bif Nat.ble cs.1 st.length && (Nat.ble (ax_cats (st.drop cs.1)) 8 && ax_rcv cs.2.1 (st.take cs.1).reverse) then
    cs.2.2.2.2.1 (st.take cs.1).reverse σ ∧ ax_res cs.2.2.1 cs.2.2.2.1 (cs.2.2.2.2.2 (st.take cs.1).reverse σ) N (st.drop cs.1)
  else False
def ax_ldI (v : AV) (P : Int → Prop) : Prop := match v with
  | .inl x => P x
  | _ => False
def ax_ldL (v : AV) (P : Int → Prop) : Prop := match v with
  | .inr (.inl x) => P x
  | _ => False
def ax_ldR (v : AV) (P : Nat × Nat × Nat → Prop) : Prop := match v with
  | .inr (.inr (.inl x)) => P x
  | _ => False
def ax_wpI (fx : Nat → Int) (ct : Nat → Ct) (K : Nat → List AV → List AV → Hp → Prop) (Rt : Option AV → Hp → Prop) (it : Item) (N : List AV → List AV → Hp → Prop) (st ls : List AV) (σ : Hp) : Prop :=
  match it.1 with
  | .iconst x => N (.inl x :: st) ls σ
  | .bipush x => N (.inl x :: st) ls σ
  | .sipush x => N (.inl x :: st) ls σ
  | .ldc _ => (match it.2.2.1 with
    | [] => N (.inl (ax_kv it.2.2.2) :: st) ls σ
    | _ => N (.inr (.inr (.inl (1000, 9, 0))) :: st) ls σ)
  | .ldc_w _ => N (.inl (ax_kv it.2.2.2) :: st) ls σ
  | .ldc2_w _ => N (.inr (.inl (ax_kv it.2.2.2)) :: st) ls σ
  | .lconst _ => N (.inr (.inl (ax_kv it.2.2.2)) :: st) ls σ
  | .iload k => ax_ldI (ax_get ls k) (fun x => N (.inl x :: st) ls σ)
  | .iload_n k => ax_ldI (ax_get ls k.val) (fun x => N (.inl x :: st) ls σ)
  | .aload k => ax_ldR (ax_get ls k) (fun x => N (.inr (.inr (.inl x)) :: st) ls σ)
  | .aload_n k => ax_ldR (ax_get ls k.val) (fun x => N (.inr (.inr (.inl x)) :: st) ls σ)
  | .lload_n k => ax_ldL (ax_get ls k.val) (fun x => N (.inr (.inl x) :: st) ls σ)
  | .istore k => (match st with
    | .inl x :: r => bif ax_half ls k then False else N r (ax_set ls k (.inl x)) σ
    | _ => False)
  | .istore_n k => (match st with
    | .inl x :: r => bif ax_half ls k.val then False else N r (ax_set ls k.val (.inl x)) σ
    | _ => False)
  | .astore k => (match st with
    | .inr (.inr (.inl x)) :: r => bif ax_half ls k then False else N r (ax_set ls k (.inr (.inr (.inl x)))) σ
    | _ => False)
  | .astore_n k => (match st with
    | .inr (.inr (.inl x)) :: r => bif ax_half ls k.val then False else N r (ax_set ls k.val (.inr (.inr (.inl x)))) σ
    | _ => False)
  | .iinc k n => ax_ldI (ax_get ls k) (fun x => N st (ax_set ls k (.inl (wr (x + n)))) σ)
  | .iadd => (match st with
    | .inl y :: .inl x :: r => N (.inl (wr (x + y)) :: r) ls σ
    | _ => False)
  | .isub => (match st with
    | .inl y :: .inl x :: r => N (.inl (wr (x - y)) :: r) ls σ
    | _ => False)
  | .imul => (match st with
    | .inl y :: .inl x :: r => N (.inl (wr (x * y)) :: r) ls σ
    | _ => False)
  | .idiv => (match st with
    | .inl y :: .inl x :: r => ¬ y = 0 ∧ N (.inl (iDiv x y) :: r) ls σ
    | _ => False)
  | .irem => (match st with
    | .inl y :: .inl x :: r => ¬ y = 0 ∧ N (.inl (iRem x y) :: r) ls σ
    | _ => False)
  | .ineg => (match st with
    | .inl x :: r => N (.inl (wr (-x)) :: r) ls σ
    | _ => False)
  | .iand => (match st with
    | .inl y :: .inl x :: r => N (.inl (iAnd x y) :: r) ls σ
    | _ => False)
  | .ior => (match st with
    | .inl y :: .inl x :: r => N (.inl (iOr x y) :: r) ls σ
    | _ => False)
  | .ixor => (match st with
    | .inl y :: .inl x :: r => N (.inl (iXor x y) :: r) ls σ
    | _ => False)
  | .ishl => (match st with
    | .inl y :: .inl x :: r => N (.inl (iShl x y) :: r) ls σ
    | _ => False)
  | .ishr => (match st with
    | .inl y :: .inl x :: r => N (.inl (iShr x y) :: r) ls σ
    | _ => False)
  | .iushr => (match st with
    | .inl y :: .inl x :: r => N (.inl (iUsh x y) :: r) ls σ
    | _ => False)
  | .i2b => (match st with
    | .inl x :: r => N (.inl (iByte x) :: r) ls σ
    | _ => False)
  | .i2c => (match st with
    | .inl x :: r => N (.inl (iChar x) :: r) ls σ
    | _ => False)
  | .i2l => (match st with
    | .inl x :: r => N (.inr (.inl x) :: r) ls σ
    | _ => False)
  | .lor => (match st with
    | .inr (.inl y) :: .inr (.inl x) :: r => N (.inr (.inl (lOr x y)) :: r) ls σ
    | _ => False)
  | .lshl => (match st with
    | .inl y :: .inr (.inl x) :: r => N (.inr (.inl (lShl x y)) :: r) ls σ
    | _ => False)
  | .lcmp => (match st with
    | .inr (.inl y) :: .inr (.inl x) :: r => N (.inl (lCmp x y) :: r) ls σ
    | _ => False)
  | .dup => (match st with
    | .inl x :: r => N (.inl x :: .inl x :: r) ls σ
    | .inr (.inr (.inl x)) :: r => N (.inr (.inr (.inl x)) :: .inr (.inr (.inl x)) :: r) ls σ
    | _ => False)
  | .dup_x1 => (match st with
    | .inl x :: .inr (.inr (.inl y)) :: r => N (.inl x :: .inr (.inr (.inl y)) :: .inl x :: r) ls σ
    | _ => False)
  | .dup2 => (match st with
    | .inl x :: .inr (.inr (.inl y)) :: r => N (.inl x :: .inr (.inr (.inl y)) :: .inl x :: .inr (.inr (.inl y)) :: r) ls σ
    | _ => False)
  | .pop => (match st with
    | .inl _ :: r => N r ls σ
    | _ => False)
  | .goto _ => K (ax_tg it.2.2.1) st ls σ
  | .ifCond cnd _ => (match st with
    | .inl x :: r => (ax_cmp cnd x 0 → K (ax_tg it.2.2.1) r ls σ) ∧ (¬ ax_cmp cnd x 0 → N r ls σ)
    | _ => False)
  | .if_icmp cnd _ => (match st with
    | .inl y :: .inl x :: r => (ax_cmp cnd x y → K (ax_tg it.2.2.1) r ls σ) ∧ (¬ ax_cmp cnd x y → N r ls σ)
    | _ => False)
  | .tableswitch _ _ _ _ => (match st with
    | .inl x :: r => ax_sw (fun t => K t r ls σ) x it.2.2.2
    | _ => False)
  | .lookupswitch _ _ => (match st with
    | .inl x :: r => ax_sw (fun t => K t r ls σ) x it.2.2.2
    | _ => False)
  | .getfield _ => (match it.2.2.1, st with
    | [ci, j, ty, o, t, n], .inr (.inr (.inl (k, 0, c))) :: r => bif Nat.beq c ci then N (ax_rd ty o t n k j σ :: r) ls σ else False
    | [0], .inr (.inr (.inl (_, 9, _))) :: r => N (.inl 0 :: r) ls σ
    | [1], .inr (.inr (.inl (_, 9, _))) :: r => N (.inr (.inr (.inl (1003, 6, 11))) :: r) ls σ
    | _, _ => False)
  | .putfield _ => (match it.2.2.1, st with
    | [ci, j, ty, _, _, n], v :: .inr (.inr (.inl (k, 0, c))) :: r => bif Nat.beq c ci then ax_wt ty n k j v σ (fun σ' => N r ls σ') else False
    | _, _ => False)
  | .getstatic _ => (match it.2.2.1 with
    | [0] => N (.inr (.inr (.inl (1001, 8, 17))) :: st) ls σ
    | [1] => N (.inl 1 :: st) ls σ
    | _ => False)
  | .arraylength => (match st with
    | .inr (.inr (.inl (_, t, n))) :: r => bif Nat.beq t 0 || Nat.beq t 9 then False else N (.inl (n : Int) :: r) ls σ
    | _ => False)
  | .iaload => (match st with
    | .inl i :: .inr (.inr (.inl (k, t, n))) :: r => bif Nat.beq t 1 || Nat.beq t 7 then (0 ≤ i ∧ i < (n : Int)) ∧ N (ax_ard fx t k i.toNat σ :: r) ls σ else False
    | _ => False)
  | .baload => (match st with
    | .inl i :: .inr (.inr (.inl (k, t, n))) :: r => bif Nat.beq t 2 || (Nat.beq t 3 || Nat.beq t 6) then (0 ≤ i ∧ i < (n : Int)) ∧ N (ax_ard fx t k i.toNat σ :: r) ls σ else False
    | _ => False)
  | .laload => (match st with
    | .inl i :: .inr (.inr (.inl (k, t, n))) :: r => bif Nat.beq t 4 || Nat.beq t 8 then (0 ≤ i ∧ i < (n : Int)) ∧ N (ax_ard fx t k i.toNat σ :: r) ls σ else False
    | _ => False)
  | .iastore => (match st with
    | .inl x :: .inl i :: .inr (.inr (.inl (k, 1, n))) :: r => (0 ≤ i ∧ i < (n : Int)) ∧ ∀ σ' : Hp, σ' = hp σ k i.toNat x → N r ls σ'
    | _ => False)
  | .bastore => (match st with
    | .inl x :: .inl i :: .inr (.inr (.inl (k, 2, n))) :: r => (0 ≤ i ∧ i < (n : Int)) ∧ ∀ σ' : Hp, σ' = hp σ k i.toNat (iByte x) → N r ls σ'
    | .inl x :: .inl i :: .inr (.inr (.inl (k, 3, n))) :: r => (0 ≤ i ∧ i < (n : Int)) ∧ ((x = 0 ∨ x = 1) ∧ ∀ σ' : Hp, σ' = hp σ k i.toNat x → N r ls σ')
    | _ => False)
  | .lastore => (match st with
    | .inr (.inl x) :: .inl i :: .inr (.inr (.inl (k, 4, n))) :: r => (0 ≤ i ∧ i < (n : Int)) ∧ ∀ σ' : Hp, σ' = hp σ k i.toNat x → N r ls σ'
    | _ => False)
  | .invokevirtual _ => ax_call (ct (ax_tg it.2.2.1)) (fun st' σ' => N st' ls σ') st σ
  | .invokestatic _ => ax_call (ct (ax_tg it.2.2.1)) (fun st' σ' => N st' ls σ') st σ
  | .ireturn => (match st with
    | [.inl x] => Rt (some (.inl x)) σ
    | _ => False)
  | .areturn => (match st with
    | [.inr (.inr (.inl x))] => Rt (some (.inr (.inr (.inl x)))) σ
    | _ => False)
  | .return_ => (match st with
    | [] => Rt none σ
    | _ => False)
  | _ => False
def ax_wpB (fx : Nat → Int) (ct : Nat → Ct) (K : Nat → List AV → List AV → Hp → Prop) (Rt : Option AV → Hp → Prop) : Nat → List Item → List AV → List AV → Hp → Prop
  | pc, [], st, ls, σ => K pc st ls σ
  | pc, it :: r, st, ls, σ => ax_wpI fx ct K Rt it (fun st ls σ => ax_wpB fx ct K Rt (pc + it.2.1) r st ls σ) st ls σ
