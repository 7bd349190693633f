/-! THE SHADOW MACHINE: the same bytecode over a small memory of whole numbers. A cell is an object of a class, an int array, or an array of States; all else is a number. One theorem ('sim', parts 05 and 06) ties it to the machine of the Statement; all reasoning about programs is done here. -/
/-- a value: an int, a long, a cell, the script -/
abbrev hn_V : Type := Int ⊕ Int64 ⊕ Nat ⊕ Unit
abbrev hn_vi (x : Int) : hn_V := .inl x
abbrev hn_vl (x : Int64) : hn_V := .inr (.inl x)
abbrev hn_vr (k : Nat) : hn_V := .inr (.inr (.inl k))
abbrev hn_vs : hn_V := .inr (.inr (.inr ()))
/-- a cell's shape: an object of a class, an int array of a length, an array of States of a length -/
abbrev hn_Sh : Type := Nat ⊕ Nat ⊕ Nat
/-- memory: the shapes; ints; references; longs -/
abbrev hn_Mem : Type := List hn_Sh × (Nat → Nat → Int) × (Nat → Nat → Option Nat) × (Nat → Nat → Int64)
abbrev hn_Ls : Type := List (Option hn_V)
abbrev hn_St : Type := (Nat × Nat × hn_Ls × List hn_V × hn_Mem) ⊕ (Option hn_V × hn_Mem)
abbrev hn_C : Type := Nat → List hn_V → hn_Mem → Option hn_V → hn_Mem → Prop
/-- an int's range -/
abbrev hn_R (x : Int) : Prop := -2147483648 ≤ x ∧ x ≤ 2147483647
def hn_up {α : Type} (f : Nat → Nat → α) (c j : Nat) (v : α) : Nat → Nat → α := fun c' j' => cond (Nat.beq c' c) (cond (Nat.beq j' j) v (f c' j')) (f c' j')
/-- a new cell's contents -/
def hn_zr {α : Type} (f : Nat → Nat → α) (c : Nat) (v : α) : Nat → Nat → α := fun c' j' => cond (Nat.beq c' c) v (f c' j')
/-- System.arraycopy -/
def hn_cp (f : Nat → Nat → Int) (a0 sp a dp n : Nat) : Nat → Nat → Int := fun c' j' => cond (Nat.beq c' a) (cond (Nat.ble dp j' && Nat.blt j' (dp + n)) (f a0 (sp + (j' - dp))) (f c' j')) (f c' j')
def hn_unl : hn_Ls → Nat → hn_Ls
  | ls, 0 => ls
  | ls, j + 1 => match ls[j]? with
    | some (some (.inr (.inl _))) => ls.set j none
    | _ => ls
def hn_set (ls : hn_Ls) (i : Nat) (v : hn_V) : hn_Ls := (hn_unl ls i).set i (some v)
def hn_set2 (ls : hn_Ls) (i : Nat) (v : hn_V) : hn_Ls := ((hn_unl ls i).set i (some v)).set (i + 1) none
def hn_args : List hn_V → hn_Ls
  | [] => []
  | .inr (.inl l) :: r => some (.inr (.inl l)) :: none :: hn_args r
  | v :: r => some v :: hn_args r
def hn_loc0 (n : Nat) (as : List hn_V) : hn_Ls := hn_args as ++ List.replicate (n - (hn_args as).length) none
def hn_pop : Nat → List hn_V → List hn_V → Option (List hn_V × List hn_V)
  | 0, st, acc => some (acc, st)
  | n + 1, v :: st, acc => hn_pop n st (v :: acc)
  | _ + 1, [], _ => none
def hn_small : List hn_V → Bool
  | [] => true
  | [_] => true
  | [_, _] => true
  | [_, _, _] => true
  | [_, _, _, _] => true
  | _ => false
def hn_cat1 : hn_V → Bool
  | .inr (.inl _) => false
  | _ => true
def hn_isObj (sh : List hn_Sh) (o c : Nat) : Bool := match sh[o]? with
  | some (.inl k) => Nat.beq k c
  | _ => false
def hn_and (x y : Int) : Int := (Int32.ofInt x &&& Int32.ofInt y).toInt
def hn_or (x y : Int) : Int := (Int32.ofInt x ||| Int32.ofInt y).toInt
def hn_xor (x y : Int) : Int := (Int32.ofInt x ^^^ Int32.ofInt y).toInt
def hn_shl (x y : Int) : Int := (Int32.ofInt x <<< (Int32.ofInt y &&& 31)).toInt
def hn_shr (x y : Int) : Int := (Int32.ofInt x >>> (Int32.ofInt y &&& 31)).toInt
def hn_ushr (x y : Int) : Int := ((Int32.ofInt x).toUInt32 >>> ((Int32.ofInt y).toUInt32 &&& Int32.toUInt32 31)).toInt32.toInt
def hn_lcmp (x y : Int64) : Int := (lg_cmp x y).toInt
/-- where a jump goes -/
abbrev hn_tgt (pc : Nat) (off : Int) : Nat := Int.toNat ((pc : Int) + off)
/-- a branch -/
abbrev hn_br (c A B : Prop) : Prop := (c → A) ∧ (¬ c → B)
def hn_look (x : Int) (pc : Nat) (K : Nat → Prop) (dflt : Int) : List (Int × Int) → Prop
  | [] => K (hn_tgt pc dflt)
  | (k, off) :: r => hn_br (x = k) (K (hn_tgt pc off)) (hn_look x pc K dflt r)
def hn_ld1 (ls : hn_Ls) (i : Nat) (K : hn_V → Prop) : Prop := match ls[i]? with
  | some (some (.inl x)) => K (.inl x)
  | _ => False
def hn_ldl (ls : hn_Ls) (i : Nat) (K : hn_V → Prop) : Prop := match ls[i]? with
  | some (some (.inr (.inl x))) => K (.inr (.inl x))
  | _ => False
def hn_lda (ls : hn_Ls) (i : Nat) (K : hn_V → Prop) : Prop := match ls[i]? with
  | some (some (.inr (.inr r))) => K (.inr (.inr r))
  | _ => False
def hn_call (C : hn_C) (t : Nat) (as : List hn_V) (M : hn_Mem) (K : Option hn_V → hn_Mem → Prop) : Prop := cond (Nat.ble (hn_args as).length (hn_ml t)) (∃ (r : Option hn_V) (M' : hn_Mem), C t as M r M' ∧ K r M') False
def hn_getf (M : hn_Mem) (o c k : Nat) (K : hn_V → Prop) : Prop := cond (hn_isObj M.1 o c) (match hn_fk c k with
  | 0 => K (.inl (M.2.1 o k))
  | 1 => K (.inl (M.2.1 o k))
  | 2 => K (.inr (.inl (M.2.2.2 o k)))
  | _ => match M.2.2.1 o k with
    | some r => K (.inr (.inr (.inl r)))
    | none => False) False
def hn_fin (c k : Nat) : Bool := ((hn_cl[c]?).map fun q => (q.2.1 k).2.2.2).getD true
def hn_putf (M : hn_Mem) (o c k : Nat) (v : hn_V) (K : hn_Mem → Prop) : Prop := cond (hn_isObj M.1 o c) (match hn_fk c k, v with
  | 0, .inl x => K (M.1, hn_up M.2.1 o k x, M.2.2)
  | 1, .inl x => (x = 0 ∨ x = 1) ∧ K (M.1, hn_up M.2.1 o k x, M.2.2)
  | 2, .inr (.inl x) => K (M.1, M.2.1, M.2.2.1, hn_up M.2.2.2 o k x)
  | 3, .inr (.inr (.inl r)) => K (M.1, M.2.1, hn_up M.2.2.1 o k (some r), M.2.2.2)
  | _, _ => False) False
def hn_ilen (sh : List hn_Sh) (a : Nat) (K : Nat → Prop) : Prop := match sh[a]? with
  | some (.inr (.inl n)) => K n
  | _ => False
def hn_qlen (sh : List hn_Sh) (a : Nat) (K : Nat → Prop) : Prop := match sh[a]? with
  | some (.inr (.inr n)) => K n
  | _ => False
def hn_alen (sh : List hn_Sh) (a : Nat) (K : Nat → Prop) : Prop := match sh[a]? with
  | some (.inr (.inr n)) => K n
  | some (.inr (.inl n)) => K n
  | _ => False
def hn_opt (o : Option Nat) (K : Nat → Prop) : Prop := match o with
  | some r => K r
  | none => False
theorem hn_optS {o : Option Nat} {r : Nat} {K : Nat → Prop} (h : o = some r) (k : K r) : hn_opt o K := by
  subst h
  exact k
def hn_new (M : hn_Mem) (s : hn_Sh) : hn_Mem := (M.1 ++ [s], hn_zr M.2.1 M.1.length 0, hn_zr M.2.2.1 M.1.length none, hn_zr M.2.2.2 M.1.length 0)
abbrev hn_nx (m pc : Nat) (ls : hn_Ls) (st : List hn_V) (M : hn_Mem) : hn_St := .inl (m, pc, ls, st, M)
/-- a call of a method of an object: n arguments, then the object -/
def hn_ivk (C : hn_C) (t : Nat) (st : List hn_V) (M : hn_Mem) (K : List hn_V → hn_Mem → Prop) : Prop := match hn_pop (hn_na t) st [] with
  | some (as, .inr (.inr (.inl o)) :: rest) => cond (hn_small rest && hn_isObj M.1 o (hn_oc t)) (hn_call C t (.inr (.inr (.inl o)) :: as) M fun r M' => K (r.toList ++ rest) M') False
  | _ => False
def hn_ivs (C : hn_C) (t : Nat) (st : List hn_V) (M : hn_Mem) (K : List hn_V → hn_Mem → Prop) : Prop := match hn_pop (hn_na t) st [] with
  | some (as, rest) => cond (hn_small rest) (hn_call C t as M fun r M' => K (r.toList ++ rest) M') False
  | _ => False
/-- a method that is walked (Math's are rows of the kit) -/
def hn_gen (t : Nat) : Bool := Nat.blt t 168 && !Nat.beq (hn_oc t) 10
/-- Math.abs, max, min -/
def hn_math (t : Nat) (st : List hn_V) (K : List hn_V → Prop) : Prop := match t, st with
  | 164, .inl x :: rest => cond (hn_small rest) (hn_R (-x) ∧ K (.inl (Int.natAbs x : Int) :: rest)) False
  | 165, .inl y :: .inl x :: rest => cond (hn_small rest) (K (.inl (max x y) :: rest)) False
  | 166, .inl y :: .inl x :: rest => cond (hn_small rest) (K (.inl (min x y) :: rest)) False
  | _, _ => False
/-- one instruction: what has to hold for K to hold behind it -/
def hn_ins (sx : Nat → Int) (sL : Nat) (C : hn_C) (m pc len : Nat) (ls : hn_Ls) (st : List hn_V) (M : hn_Mem) (K : hn_St → Prop) (ins : Instr) : Prop := match ins, st with
  | .aload_n k, st => hn_lda ls k fun v => K (hn_nx m (pc + len) ls (v :: st) M)
  | .aload k, st => hn_lda ls k fun v => K (hn_nx m (pc + len) ls (v :: st) M)
  | .iload_n k, st => hn_ld1 ls k fun v => K (hn_nx m (pc + len) ls (v :: st) M)
  | .iload k, st => hn_ld1 ls k fun v => K (hn_nx m (pc + len) ls (v :: st) M)
  | .lload_n k, st => hn_ldl ls k fun v => K (hn_nx m (pc + len) ls (v :: st) M)
  | .lload k, st => hn_ldl ls k fun v => K (hn_nx m (pc + len) ls (v :: st) M)
  | .istore_n k, .inl x :: st => cond (Nat.blt k ls.length) (K (hn_nx m (pc + len) (hn_set ls k (.inl x)) st M)) False
  | .istore k, .inl x :: st => cond (Nat.blt k ls.length) (K (hn_nx m (pc + len) (hn_set ls k (.inl x)) st M)) False
  | .astore_n k, .inr (.inr (.inl x)) :: st => cond (Nat.blt k ls.length) (K (hn_nx m (pc + len) (hn_set ls k (.inr (.inr (.inl x)))) st M)) False
  | .lstore_n k, .inr (.inl x) :: st => cond (Nat.blt (k + 1) ls.length) (K (hn_nx m (pc + len) (hn_set2 ls k (.inr (.inl x))) st M)) False
  | .lstore k, .inr (.inl x) :: st => cond (Nat.blt (k + 1) ls.length) (K (hn_nx m (pc + len) (hn_set2 ls k (.inr (.inl x))) st M)) False
  | .iinc k n, st => match ls[k]? with
    | some (some (.inl x)) => hn_R (x + n) ∧ K (hn_nx m (pc + len) (hn_set ls k (.inl (x + n))) st M)
    | _ => False
  | .iconst n, st => K (hn_nx m (pc + len) ls (.inl n :: st) M)
  | .bipush n, st => K (hn_nx m (pc + len) ls (.inl n :: st) M)
  | .sipush n, st => K (hn_nx m (pc + len) ls (.inl n :: st) M)
  | .ldc i, st => match hn_cst (hn_oc m * 1024 + i) with
    | some v => K (hn_nx m (pc + len) ls (.inl v :: st) M)
    | none => False
  | .ldc_w i, st => match hn_cst (hn_oc m * 1024 + i) with
    | some v => K (hn_nx m (pc + len) ls (.inl v :: st) M)
    | none => False
  | .ldc2_w i, st => match hn_cl2 (hn_oc m * 1024 + i) with
    | some v => K (hn_nx m (pc + len) ls (.inr (.inl v) :: st) M)
    | none => False
  | .iadd, .inl y :: .inl x :: st => hn_R (x + y) ∧ K (hn_nx m (pc + len) ls (.inl (x + y) :: st) M)
  | .isub, .inl y :: .inl x :: st => hn_R (x - y) ∧ K (hn_nx m (pc + len) ls (.inl (x - y) :: st) M)
  | .imul, .inl y :: .inl x :: st => hn_R (x * y) ∧ K (hn_nx m (pc + len) ls (.inl (x * y) :: st) M)
  | .irem, .inl y :: .inl x :: st => (0 ≤ x ∧ 0 < y) ∧ K (hn_nx m (pc + len) ls (.inl (x % y) :: st) M)
  | .ineg, .inl x :: st => hn_R (-x) ∧ K (hn_nx m (pc + len) ls (.inl (-x) :: st) M)
  | .iand, .inl y :: .inl x :: st => K (hn_nx m (pc + len) ls (.inl (hn_and x y) :: st) M)
  | .ior, .inl y :: .inl x :: st => K (hn_nx m (pc + len) ls (.inl (hn_or x y) :: st) M)
  | .ixor, .inl y :: .inl x :: st => K (hn_nx m (pc + len) ls (.inl (hn_xor x y) :: st) M)
  | .ishl, .inl y :: .inl x :: st => K (hn_nx m (pc + len) ls (.inl (hn_shl x y) :: st) M)
  | .ishr, .inl y :: .inl x :: st => K (hn_nx m (pc + len) ls (.inl (hn_shr x y) :: st) M)
  | .iushr, .inl y :: .inl x :: st => K (hn_nx m (pc + len) ls (.inl (hn_ushr x y) :: st) M)
  | .i2l, .inl x :: st => K (hn_nx m (pc + len) ls (.inr (.inl (Int64.ofInt x)) :: st) M)
  | .ladd, .inr (.inl y) :: .inr (.inl x) :: st => K (hn_nx m (pc + len) ls (.inr (.inl (x + y)) :: st) M)
  | .lmul, .inr (.inl y) :: .inr (.inl x) :: st => K (hn_nx m (pc + len) ls (.inr (.inl (x * y)) :: st) M)
  | .lcmp, .inr (.inl y) :: .inr (.inl x) :: st => K (hn_nx m (pc + len) ls (.inl (hn_lcmp x y) :: st) M)
  | .dup, v :: st => cond (hn_cat1 v) (K (hn_nx m (pc + len) ls (v :: v :: st) M)) False
  | .dup_x1, v :: w :: st => cond (hn_cat1 v && hn_cat1 w) (K (hn_nx m (pc + len) ls (v :: w :: v :: st) M)) False
  | .dup2, v :: w :: st => cond (hn_cat1 v && hn_cat1 w) (K (hn_nx m (pc + len) ls (v :: w :: v :: w :: st) M)) False
  | .pop, v :: st => cond (hn_cat1 v) (K (hn_nx m (pc + len) ls st M)) False
  | .goto off, st => K (hn_nx m (hn_tgt pc off) ls st M)
  | .ifCond .eq off, .inl x :: st => hn_br (x = 0) (K (hn_nx m (hn_tgt pc off) ls st M)) (K (hn_nx m (pc + len) ls st M))
  | .ifCond .ne off, .inl x :: st => hn_br (x = 0) (K (hn_nx m (pc + len) ls st M)) (K (hn_nx m (hn_tgt pc off) ls st M))
  | .ifCond .lt off, .inl x :: st => hn_br (x < 0) (K (hn_nx m (hn_tgt pc off) ls st M)) (K (hn_nx m (pc + len) ls st M))
  | .ifCond .ge off, .inl x :: st => hn_br (x < 0) (K (hn_nx m (pc + len) ls st M)) (K (hn_nx m (hn_tgt pc off) ls st M))
  | .ifCond .gt off, .inl x :: st => hn_br (0 < x) (K (hn_nx m (hn_tgt pc off) ls st M)) (K (hn_nx m (pc + len) ls st M))
  | .ifCond .le off, .inl x :: st => hn_br (0 < x) (K (hn_nx m (pc + len) ls st M)) (K (hn_nx m (hn_tgt pc off) ls st M))
  | .if_icmp .eq off, .inl y :: .inl x :: st => hn_br (x = y) (K (hn_nx m (hn_tgt pc off) ls st M)) (K (hn_nx m (pc + len) ls st M))
  | .if_icmp .ne off, .inl y :: .inl x :: st => hn_br (x = y) (K (hn_nx m (pc + len) ls st M)) (K (hn_nx m (hn_tgt pc off) ls st M))
  | .if_icmp .lt off, .inl y :: .inl x :: st => hn_br (x < y) (K (hn_nx m (hn_tgt pc off) ls st M)) (K (hn_nx m (pc + len) ls st M))
  | .if_icmp .ge off, .inl y :: .inl x :: st => hn_br (x < y) (K (hn_nx m (pc + len) ls st M)) (K (hn_nx m (hn_tgt pc off) ls st M))
  | .if_icmp .gt off, .inl y :: .inl x :: st => hn_br (y < x) (K (hn_nx m (hn_tgt pc off) ls st M)) (K (hn_nx m (pc + len) ls st M))
  | .if_icmp .le off, .inl y :: .inl x :: st => hn_br (y < x) (K (hn_nx m (pc + len) ls st M)) (K (hn_nx m (hn_tgt pc off) ls st M))
  | .tableswitch dflt lo hi offs, .inl x :: st => hn_br (x < lo ∨ hi < x) (K (hn_nx m (hn_tgt pc dflt) ls st M)) (match offs.toList[(x - lo).toNat]? with
    | some off => K (hn_nx m (hn_tgt pc off) ls st M)
    | none => False)
  | .lookupswitch dflt ps, .inl x :: st => hn_look x pc (fun t => K (hn_nx m t ls st M)) dflt ps.toList
  | .getfield i, .inr (.inr (.inl o)) :: st => match hn_fld (hn_oc m * 1024 + i) with
    | some (c, k) => hn_getf M o c k fun v => K (hn_nx m (pc + len) ls (v :: st) M)
    | none => False
  | .putfield i, v :: .inr (.inr (.inl o)) :: st => match hn_fld (hn_oc m * 1024 + i) with
    | some (c, k) => cond (!hn_fin c k || (Nat.beq (hn_mk m) 2 && Nat.beq (hn_oc m) c)) (hn_putf M o c k v fun M' => K (hn_nx m (pc + len) ls st M')) False
    | none => False
  | .iaload, .inl i :: .inr (.inr (.inl a)) :: st => hn_ilen M.1 a fun n => (0 ≤ i ∧ i < n) ∧ K (hn_nx m (pc + len) ls (.inl (M.2.1 a i.toNat) :: st) M)
  | .iaload, .inl i :: .inr (.inr (.inr _)) :: st => (0 ≤ i ∧ i < sL) ∧ K (hn_nx m (pc + len) ls (.inl (sx i.toNat) :: st) M)
  | .iastore, .inl x :: .inl i :: .inr (.inr (.inl a)) :: st => hn_ilen M.1 a fun n => (0 ≤ i ∧ i < n) ∧ K (hn_nx m (pc + len) ls st (M.1, hn_up M.2.1 a i.toNat x, M.2.2))
  | .aaload, .inl i :: .inr (.inr (.inl a)) :: st => hn_qlen M.1 a fun n => (0 ≤ i ∧ i < n) ∧ hn_opt (M.2.2.1 a i.toNat) fun r => K (hn_nx m (pc + len) ls (.inr (.inr (.inl r)) :: st) M)
  | .aastore, .inr (.inr (.inl r)) :: .inl i :: .inr (.inr (.inl a)) :: st => hn_qlen M.1 a fun n => (0 ≤ i ∧ i < n) ∧ cond (hn_isObj M.1 r 4) (K (hn_nx m (pc + len) ls st (M.1, M.2.1, hn_up M.2.2.1 a i.toNat (some r), M.2.2.2))) False
  | .arraylength, .inr (.inr (.inl a)) :: st => hn_alen M.1 a fun n => cond (Nat.ble n 10000) (K (hn_nx m (pc + len) ls (.inl (n : Int) :: st) M)) False
  | .arraylength, .inr (.inr (.inr _)) :: st => K (hn_nx m (pc + len) ls (.inl (sL : Int) :: st) M)
  | .new i, st => match hn_cls (hn_oc m * 1024 + i) with
    | some c => K (hn_nx m (pc + len) ls (.inr (.inr (.inl M.1.length)) :: st) (hn_new M (.inl c)))
    | none => False
  | .newarray .int, .inl n :: st => (0 ≤ n ∧ n ≤ 10000) ∧ K (hn_nx m (pc + len) ls (.inr (.inr (.inl M.1.length)) :: st) (hn_new M (.inr (.inl n.toNat))))
  | .anewarray i, .inl n :: st => match hn_cls (hn_oc m * 1024 + i) with
    | some c => cond (Nat.beq c 4) ((0 ≤ n ∧ n ≤ 10000) ∧ K (hn_nx m (pc + len) ls (.inr (.inr (.inl M.1.length)) :: st) (hn_new M (.inr (.inr n.toNat))))) False
    | none => False
  | .invokevirtual i, st => match hn_site (hn_oc m * 1024 + i) with
    | some t => cond (Nat.beq (hn_mk t) 1 && hn_gen t) (hn_ivk C t st M fun st' M' => K (hn_nx m (pc + len) ls st' M')) False
    | none => False
  | .invokespecial i, st => match hn_site (hn_oc m * 1024 + i) with
    | some t => cond (Nat.beq t 1001) (match st with
      | .inr (.inr (.inl _)) :: rest => cond (hn_small rest) (K (hn_nx m (pc + len) ls rest M)) False
      | _ => False) (cond (Nat.beq (hn_mk t) 2 && hn_gen t) (hn_ivk C t st M fun st' M' => K (hn_nx m (pc + len) ls st' M')) False)
    | none => False
  | .invokestatic i, st => match hn_site (hn_oc m * 1024 + i) with
    | some t => cond (Nat.beq t 1000) (match st with
      | .inl n :: .inl dp :: .inr (.inr (.inl a)) :: .inl sp :: .inr (.inr (.inl a0)) :: rest => cond (hn_small rest) (hn_ilen M.1 a0 fun n0 => hn_ilen M.1 a fun n1 => (0 ≤ sp ∧ 0 ≤ dp ∧ 0 ≤ n ∧ sp + n ≤ n0 ∧ dp + n ≤ n1) ∧ K (hn_nx m (pc + len) ls rest (M.1, hn_cp M.2.1 a0 sp.toNat a dp.toNat n.toNat, M.2.2))) False
      | _ => False) (cond (Nat.beq (hn_mk t) 0 && hn_gen t) (hn_ivs C t st M fun st' M' => K (hn_nx m (pc + len) ls st' M')) (cond (hn_nest (hn_oc m * 1024 + i)) False (hn_math t st fun st' => K (hn_nx m (pc + len) ls st' M))))
    | none => False
  | .ireturn, [.inl x] => match hn_rt m with
    | some .boolean => (x = 0 ∨ x = 1) ∧ K (.inr (some (.inl x), M))
    | some .int => K (.inr (some (.inl x), M))
    | _ => False
  | .lreturn, [.inr (.inl x)] => match hn_rt m with
    | some .long => K (.inr (some (.inr (.inl x)), M))
    | _ => False
  | .return_, [] => match hn_rt m with
    | none => K (.inr (none, M))
    | _ => False
  | _, _ => False
def hn_stp (sx : Nat → Int) (sL : Nat) (C : hn_C) (K : hn_St → Prop) : hn_St → Prop
  | .inr _ => False
  | .inl (m, pc, ls, st, M) => match hn_code m pc with
    | some (ins, len) => hn_ins sx sL C m pc len ls st M K ins
    | none => False
/-- locals that are forgotten -/
def hn_kl : List Bool → hn_Ls → hn_Ls
  | true :: b, x :: l => x :: hn_kl b l
  | false :: b, _ :: l => none :: hn_kl b l
  | _, l => l
/-- from a to b -/
def hn_go (sx : Nat → Int) (sL : Nat) (C : hn_C) (a b : hn_St) : Prop := ∀ P : hn_St → Prop, (∀ q, hn_stp sx sL C P q → P q) → (∀ (k : List Bool) (m pc : Nat) (ls : hn_Ls) (st : List hn_V) (M : hn_Mem), P (hn_nx m pc (hn_kl k ls) st M) → P (hn_nx m pc ls st M)) → P b → P a
theorem hn_go.rf {sx : Nat → Int} {sL : Nat} {C : hn_C} {a : hn_St} : hn_go sx sL C a a := fun _ _ _ h => h
theorem hn_go.tr {sx : Nat → Int} {sL : Nat} {C : hn_C} {a b c : hn_St} (h : hn_go sx sL C a b) (k : hn_go sx sL C b c) : hn_go sx sL C a c := fun P hc hw ht => h P hc hw (k P hc hw ht)
theorem hn_go.kl {sx : Nat → Int} {sL : Nat} {C : hn_C} {m pc : Nat} {ls : hn_Ls} {st : List hn_V} {M : hn_Mem} (k : List Bool) : hn_go sx sL C (hn_nx m pc ls st M) (hn_nx m pc (hn_kl k ls) st M) := fun _ _ hw ht => hw k _ _ _ _ _ ht
theorem hn_condT {b : Bool} {X : Prop} (h : b = true) (k : X) : cond b X False := by
  subst h
  exact k
/-- a loop -/
theorem hn_for {sx : Nat → Int} {sL : Nat} {C : hn_C} (F : Nat → hn_St) (n : Nat) (h : ∀ i, i < n → hn_go sx sL C (F i) (F (i + 1))) : hn_go sx sL C (F 0) (F n) := by
  induction n with
  | zero => exact hn_go.rf
  | succ n ih => exact (ih fun i hi => h i (by omega)).tr (h n (by omega))
theorem hn_for1 {sx : Nat → Int} {sL : Nat} {C : hn_C} (F : Nat → hn_St) (a n : Nat) (ha : a ≤ n) (h : ∀ i, a ≤ i → i < n → hn_go sx sL C (F i) (F (i + 1))) : hn_go sx sL C (F a) (F n) := by
  induction n with
  | zero => rw [show a = 0 by omega]; exact hn_go.rf
  | succ n ih =>
    by_cases e : a = n + 1
    · rw [e]; exact hn_go.rf
    · exact (ih (by omega) fun i h1 h2 => h i h1 (by omega)).tr (h n (by omega) (by omega))
/-- a method's run, at most d calls deep -/
def hn_ret (sx : Nat → Int) (sL : Nat) : Nat → hn_C
  | 0 => fun _ _ _ _ _ => False
  | d + 1 => fun m as M r M' => hn_go sx sL (hn_ret sx sL d) (hn_nx m 0 (hn_loc0 (hn_ml m) as) [] M) (.inr (r, M'))
