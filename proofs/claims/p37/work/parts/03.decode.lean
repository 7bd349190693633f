/-! what the tables above say, decided row by row -/
theorem hn_bltT {a b : Nat} : Nat.blt a b = true ↔ a < b := by rw [Nat.blt_eq]
theorem hn_bltF {a b : Nat} : Nat.blt a b = false ↔ ¬ a < b := by rw [← Bool.not_eq_true, hn_bltT]
def hn_fT (c k : Nat) : String × String × String × Bool := ((hn_cl[c]?).map fun q => q.2.1 k).getD ("", "", "", false)
def hn_pos (pc : Nat) (off : Int) : Bool := decide (0 ≤ (pc : Int) + off)
/-- an instruction's length, the words that it rests on, its jumps -/
def hn_chk (m pc : Nat) (ins : Instr) (len : Nat) : Bool := match ins with
  | .goto off => hn_pos pc off && Nat.beq len 3
  | .ifCond _ off => hn_pos pc off && Nat.beq len 3
  | .if_icmp _ off => hn_pos pc off && Nat.beq len 3
  | .bipush n => decide (-128 ≤ n ∧ n ≤ 127) && Nat.beq len 2
  | .sipush n => decide (-32768 ≤ n ∧ n ≤ 32767) && Nat.beq len 3
  | .iconst n => decide (-1 ≤ n ∧ n ≤ 5) && Nat.beq len 1
  | .iinc _ n => decide (-128 ≤ n ∧ n ≤ 127) && Nat.beq len 3
  | .iload _ => Nat.beq len 2
  | .aload _ => Nat.beq len 2
  | .istore _ => Nat.beq len 2
  | .lload _ => Nat.beq len 2
  | .lstore _ => Nat.beq len 2
  | .newarray _ => Nat.beq len 2
  | .ldc i => Nat.beq len 2 && (match hn_cst (hn_oc m * 1024 + i) with
    | some v => decide (lw_tbl[hn_pcst (hn_oc m * 1024 + i)]? = some (.constant (hn_cn (hn_oc m)) i (Int32.ofInt v))) && decide (-2147483648 ≤ v ∧ v ≤ 2147483647)
    | none => false)
  | .ldc_w i => Nat.beq len 3 && (match hn_cst (hn_oc m * 1024 + i) with
    | some v => decide (lw_tbl[hn_pcst (hn_oc m * 1024 + i)]? = some (.constant (hn_cn (hn_oc m)) i (Int32.ofInt v))) && decide (-2147483648 ≤ v ∧ v ≤ 2147483647)
    | none => false)
  | .ldc2_w i => Nat.beq len 3 && (match hn_cl2 (hn_oc m * 1024 + i) with
    | some v => decide (lw_tbl[hn_pcl2 (hn_oc m * 1024 + i)]? = some (.constantLong (hn_cn (hn_oc m)) i v))
    | none => false)
  | .getfield i => Nat.beq len 3 && (match hn_fld (hn_oc m * 1024 + i) with
    | some (c, k) => decide (lw_tbl[hn_pfld (hn_oc m * 1024 + i)]? = some (.fieldLink (hn_cn (hn_oc m)) i (hn_cn c) (hn_fT c k).2.1 (hn_fT c k).2.2.1)) && Nat.blt c 8 && Nat.blt k (hn_nf c)
    | none => false)
  | .putfield i => Nat.beq len 3 && (match hn_fld (hn_oc m * 1024 + i) with
    | some (c, k) => decide (lw_tbl[hn_pfld (hn_oc m * 1024 + i)]? = some (.fieldLink (hn_cn (hn_oc m)) i (hn_cn c) (hn_fT c k).2.1 (hn_fT c k).2.2.1)) && Nat.blt c 8 && Nat.blt k (hn_nf c)
    | none => false)
  | .new i => Nat.beq len 3 && (match hn_cls (hn_oc m * 1024 + i) with
    | some c => decide (lw_tbl[hn_pcls (hn_oc m * 1024 + i)]? = some (.classLink (hn_cn (hn_oc m)) i (hn_cn c))) && Nat.blt c 8
    | none => false)
  | .anewarray i => Nat.beq len 3 && (match hn_cls (hn_oc m * 1024 + i) with
    | some c => decide (lw_tbl[hn_pcls (hn_oc m * 1024 + i)]? = some (.classLink (hn_cn (hn_oc m)) i (hn_cn c))) && Nat.blt c 8
    | none => false)
  | .invokevirtual i => Nat.beq len 3 && (match hn_site (hn_oc m * 1024 + i) with
    | some t => Nat.blt t 168 && !hn_nest (hn_oc m * 1024 + i) && decide (lw_tbl[hn_psite (hn_oc m * 1024 + i)]? = some (.methodLink (hn_cn (hn_oc m)) i (hn_y t)))
    | none => false)
  | .invokespecial i => Nat.beq len 3 && (match hn_site (hn_oc m * 1024 + i) with
    | some t => cond (Nat.beq t 1001) (decide (lw_tbl[hn_psite (hn_oc m * 1024 + i)]? = some (.methodLink (hn_cn (hn_oc m)) i objectInit))) (Nat.blt t 168 && cond (hn_nest (hn_oc m * 1024 + i)) (decide (lw_tbl[hn_psite (hn_oc m * 1024 + i)]? = some (.methodLinkNest (hn_cn (hn_oc m)) i (hn_y t) "HubNetworks"))) (decide (lw_tbl[hn_psite (hn_oc m * 1024 + i)]? = some (.methodLink (hn_cn (hn_oc m)) i (hn_y t)))))
    | none => false)
  | .invokestatic i => Nat.beq len 3 && (match hn_site (hn_oc m * 1024 + i) with
    | some t => cond (Nat.beq t 1000) (decide (lw_tbl[hn_psite (hn_oc m * 1024 + i)]? = some (.methodLink (hn_cn (hn_oc m)) i arraycopyName))) (Nat.blt t 168 && cond (hn_nest (hn_oc m * 1024 + i)) (decide (lw_tbl[hn_psite (hn_oc m * 1024 + i)]? = some (.methodLinkNest (hn_cn (hn_oc m)) i (hn_y t) "HubNetworks"))) (decide (lw_tbl[hn_psite (hn_oc m * 1024 + i)]? = some (.methodLink (hn_cn (hn_oc m)) i (hn_y t)))))
    | none => false)
  | .tableswitch dflt _ _ offs => hn_pos pc dflt && offs.toList.all (hn_pos pc)
  | .lookupswitch dflt ps => hn_pos pc dflt && ps.toList.all (fun q => hn_pos pc q.2) && (ps.toList.zip (ps.toList.drop 1)).all (fun q => decide (q.1.1 < q.2.1))
  | _ => Nat.beq len 1
def hn_cd (m : Nat) (k : Nat → Option (Instr × Nat)) (pc : Nat) : Bool := match k pc with
  | some q => decide (decode (hn_c m) pc = .ok q) && hn_chk m pc q.1 q.2
  | none => true
set_option maxRecDepth 100000 in
theorem hn_kd0 : ∀ pc, pc < 10 → hn_cd 0 hn_k0 pc = true := by decide +kernel
set_option maxRecDepth 100000 in
theorem hn_kd1 : ∀ pc, pc < 153 → hn_cd 1 hn_k1 pc = true := by decide +kernel
set_option maxRecDepth 100000 in
theorem hn_kd2 : ∀ pc, pc < 84 → hn_cd 2 hn_k2 pc = true := by decide +kernel
set_option maxRecDepth 100000 in
theorem hn_kd3 : ∀ pc, pc < 113 → hn_cd 3 hn_k3 pc = true := by decide +kernel
set_option maxRecDepth 100000 in
theorem hn_kd4 : ∀ pc, pc < 39 → hn_cd 4 hn_k4 pc = true := by decide +kernel
set_option maxRecDepth 100000 in
theorem hn_kd5 : ∀ pc, pc < 36 → hn_cd 5 hn_k5 pc = true := by decide +kernel
set_option maxRecDepth 100000 in
theorem hn_kd6 : ∀ pc, pc < 47 → hn_cd 6 hn_k6 pc = true := by decide +kernel
set_option maxRecDepth 100000 in
theorem hn_kd7 : ∀ pc, pc < 34 → hn_cd 7 hn_k7 pc = true := by decide +kernel
set_option maxRecDepth 100000 in
theorem hn_kd8 : ∀ pc, pc < 26 → hn_cd 8 hn_k8 pc = true := by decide +kernel
set_option maxRecDepth 100000 in
theorem hn_kd9 : ∀ pc, pc < 57 → hn_cd 9 hn_k9 pc = true := by decide +kernel
set_option maxRecDepth 100000 in
theorem hn_kd10 : ∀ pc, pc < 95 → hn_cd 10 hn_k10 pc = true := by decide +kernel
set_option maxRecDepth 100000 in
theorem hn_kd11 : ∀ pc, pc < 49 → hn_cd 11 hn_k11 pc = true := by decide +kernel
set_option maxRecDepth 100000 in
theorem hn_kd12 : ∀ pc, pc < 67 → hn_cd 12 hn_k12 pc = true := by decide +kernel
set_option maxRecDepth 100000 in
theorem hn_kd13 : ∀ pc, pc < 67 → hn_cd 13 hn_k13 pc = true := by decide +kernel
set_option maxRecDepth 100000 in
theorem hn_kd14 : ∀ pc, pc < 92 → hn_cd 14 hn_k14 pc = true := by decide +kernel
set_option maxRecDepth 100000 in
theorem hn_kd15 : ∀ pc, pc < 110 → hn_cd 15 hn_k15 pc = true := by decide +kernel
set_option maxRecDepth 100000 in
theorem hn_kd16 : ∀ pc, pc < 43 → hn_cd 16 hn_k16 pc = true := by decide +kernel
set_option maxRecDepth 100000 in
theorem hn_kd17 : ∀ pc, pc < 88 → hn_cd 17 hn_k17 pc = true := by decide +kernel
set_option maxRecDepth 100000 in
theorem hn_kd18 : ∀ pc, pc < 39 → hn_cd 18 hn_k18 pc = true := by decide +kernel
set_option maxRecDepth 100000 in
theorem hn_kd19 : ∀ pc, pc < 95 → hn_cd 19 hn_k19 pc = true := by decide +kernel
set_option maxRecDepth 100000 in
theorem hn_kd20 : ∀ pc, pc < 178 → hn_cd 20 hn_k20 pc = true := by decide +kernel
set_option maxRecDepth 100000 in
theorem hn_kd21 : ∀ pc, pc < 16 → hn_cd 21 hn_k21 pc = true := by decide +kernel
set_option maxRecDepth 100000 in
theorem hn_kd22 : ∀ pc, pc < 42 → hn_cd 22 hn_k22 pc = true := by decide +kernel
set_option maxRecDepth 100000 in
theorem hn_kd23 : ∀ pc, pc < 38 → hn_cd 23 hn_k23 pc = true := by decide +kernel
set_option maxRecDepth 100000 in
theorem hn_kd24 : ∀ pc, pc < 46 → hn_cd 24 hn_k24 pc = true := by decide +kernel
set_option maxRecDepth 100000 in
theorem hn_kd25 : ∀ pc, pc < 49 → hn_cd 25 hn_k25 pc = true := by decide +kernel
set_option maxRecDepth 100000 in
theorem hn_kd26 : ∀ pc, pc < 18 → hn_cd 26 hn_k26 pc = true := by decide +kernel
set_option maxRecDepth 100000 in
theorem hn_kd27 : ∀ pc, pc < 130 → hn_cd 27 hn_k27 pc = true := by decide +kernel
set_option maxRecDepth 100000 in
theorem hn_kd28 : ∀ pc, pc < 94 → hn_cd 28 hn_k28 pc = true := by decide +kernel
set_option maxRecDepth 100000 in
theorem hn_kd29 : ∀ pc, pc < 77 → hn_cd 29 hn_k29 pc = true := by decide +kernel
set_option maxRecDepth 100000 in
theorem hn_kd30 : ∀ pc, pc < 116 → hn_cd 30 hn_k30 pc = true := by decide +kernel
set_option maxRecDepth 100000 in
theorem hn_kd31 : ∀ pc, pc < 84 → hn_cd 31 hn_k31 pc = true := by decide +kernel
set_option maxRecDepth 100000 in
theorem hn_kd32 : ∀ pc, pc < 51 → hn_cd 32 hn_k32 pc = true := by decide +kernel
set_option maxRecDepth 100000 in
theorem hn_kd33 : ∀ pc, pc < 136 → hn_cd 33 hn_k33 pc = true := by decide +kernel
set_option maxRecDepth 100000 in
theorem hn_kd34 : ∀ pc, pc < 103 → hn_cd 34 hn_k34 pc = true := by decide +kernel
set_option maxRecDepth 100000 in
theorem hn_kd35 : ∀ pc, pc < 85 → hn_cd 35 hn_k35 pc = true := by decide +kernel
set_option maxRecDepth 100000 in
theorem hn_kd36 : ∀ pc, pc < 171 → hn_cd 36 hn_k36 pc = true := by decide +kernel
set_option maxRecDepth 100000 in
theorem hn_kd37 : ∀ pc, pc < 18 → hn_cd 37 hn_k37 pc = true := by decide +kernel
set_option maxRecDepth 100000 in
theorem hn_kd38 : ∀ pc, pc < 25 → hn_cd 38 hn_k38 pc = true := by decide +kernel
set_option maxRecDepth 100000 in
theorem hn_kd39 : ∀ pc, pc < 9 → hn_cd 39 hn_k39 pc = true := by decide +kernel
set_option maxRecDepth 100000 in
theorem hn_kd40 : ∀ pc, pc < 41 → hn_cd 40 hn_k40 pc = true := by decide +kernel
set_option maxRecDepth 100000 in
theorem hn_kd41 : ∀ pc, pc < 34 → hn_cd 41 hn_k41 pc = true := by decide +kernel
set_option maxRecDepth 100000 in
theorem hn_kd42 : ∀ pc, pc < 34 → hn_cd 42 hn_k42 pc = true := by decide +kernel
set_option maxRecDepth 100000 in
theorem hn_kd43 : ∀ pc, pc < 34 → hn_cd 43 hn_k43 pc = true := by decide +kernel
set_option maxRecDepth 100000 in
theorem hn_kd44 : ∀ pc, pc < 117 → hn_cd 44 hn_k44 pc = true := by decide +kernel
set_option maxRecDepth 100000 in
theorem hn_kd45 : ∀ pc, pc < 65 → hn_cd 45 hn_k45 pc = true := by decide +kernel
set_option maxRecDepth 100000 in
theorem hn_kd46 : ∀ pc, pc < 82 → hn_cd 46 hn_k46 pc = true := by decide +kernel
set_option maxRecDepth 100000 in
theorem hn_kd47 : ∀ pc, pc < 34 → hn_cd 47 hn_k47 pc = true := by decide +kernel
set_option maxRecDepth 100000 in
theorem hn_kd48 : ∀ pc, pc < 54 → hn_cd 48 hn_k48 pc = true := by decide +kernel
set_option maxRecDepth 100000 in
theorem hn_kd49 : ∀ pc, pc < 30 → hn_cd 49 hn_k49 pc = true := by decide +kernel
set_option maxRecDepth 100000 in
theorem hn_kd50 : ∀ pc, pc < 1 → hn_cd 50 hn_k50 pc = true := by decide +kernel
set_option maxRecDepth 100000 in
theorem hn_kd51 : ∀ pc, pc < 11 → hn_cd 51 hn_k51 pc = true := by decide +kernel
set_option maxRecDepth 100000 in
theorem hn_kd52 : ∀ pc, pc < 185 → hn_cd 52 hn_k52 pc = true := by decide +kernel
set_option maxRecDepth 100000 in
theorem hn_kd53 : ∀ pc, pc < 64 → hn_cd 53 hn_k53 pc = true := by decide +kernel
set_option maxRecDepth 100000 in
theorem hn_kd54 : ∀ pc, pc < 29 → hn_cd 54 hn_k54 pc = true := by decide +kernel
set_option maxRecDepth 100000 in
theorem hn_kd55 : ∀ pc, pc < 34 → hn_cd 55 hn_k55 pc = true := by decide +kernel
set_option maxRecDepth 100000 in
theorem hn_kd56 : ∀ pc, pc < 35 → hn_cd 56 hn_k56 pc = true := by decide +kernel
set_option maxRecDepth 100000 in
theorem hn_kd57 : ∀ pc, pc < 98 → hn_cd 57 hn_k57 pc = true := by decide +kernel
set_option maxRecDepth 100000 in
theorem hn_kd58 : ∀ pc, pc < 28 → hn_cd 58 hn_k58 pc = true := by decide +kernel
set_option maxRecDepth 100000 in
theorem hn_kd59 : ∀ pc, pc < 26 → hn_cd 59 hn_k59 pc = true := by decide +kernel
set_option maxRecDepth 100000 in
theorem hn_kd60 : ∀ pc, pc < 1 → hn_cd 60 hn_k60 pc = true := by decide +kernel
set_option maxRecDepth 100000 in
theorem hn_kd61 : ∀ pc, pc < 107 → hn_cd 61 hn_k61 pc = true := by decide +kernel
set_option maxRecDepth 100000 in
theorem hn_kd62 : ∀ pc, pc < 108 → hn_cd 62 hn_k62 pc = true := by decide +kernel
set_option maxRecDepth 100000 in
theorem hn_kd63 : ∀ pc, pc < 8 → hn_cd 63 hn_k63 pc = true := by decide +kernel
set_option maxRecDepth 100000 in
theorem hn_kd64 : ∀ pc, pc < 113 → hn_cd 64 hn_k64 pc = true := by decide +kernel
set_option maxRecDepth 100000 in
theorem hn_kd65 : ∀ pc, pc < 40 → hn_cd 65 hn_k65 pc = true := by decide +kernel
set_option maxRecDepth 100000 in
theorem hn_kd66 : ∀ pc, pc < 1 → hn_cd 66 hn_k66 pc = true := by decide +kernel
set_option maxRecDepth 100000 in
theorem hn_kd67 : ∀ pc, pc < 25 → hn_cd 67 hn_k67 pc = true := by decide +kernel
set_option maxRecDepth 100000 in
theorem hn_kd68 : ∀ pc, pc < 25 → hn_cd 68 hn_k68 pc = true := by decide +kernel
set_option maxRecDepth 100000 in
theorem hn_kd69 : ∀ pc, pc < 8 → hn_cd 69 hn_k69 pc = true := by decide +kernel
set_option maxRecDepth 100000 in
theorem hn_kd70 : ∀ pc, pc < 26 → hn_cd 70 hn_k70 pc = true := by decide +kernel
set_option maxRecDepth 100000 in
theorem hn_kd71 : ∀ pc, pc < 49 → hn_cd 71 hn_k71 pc = true := by decide +kernel
set_option maxRecDepth 100000 in
theorem hn_kd72 : ∀ pc, pc < 52 → hn_cd 72 hn_k72 pc = true := by decide +kernel
set_option maxRecDepth 100000 in
theorem hn_kd73 : ∀ pc, pc < 1 → hn_cd 73 hn_k73 pc = true := by decide +kernel
set_option maxRecDepth 100000 in
theorem hn_kd74 : ∀ pc, pc < 180 → hn_cd 74 hn_k74 pc = true := by decide +kernel
set_option maxRecDepth 100000 in
theorem hn_kd75 : ∀ pc, pc < 1 → hn_cd 75 hn_k75 pc = true := by decide +kernel
set_option maxRecDepth 100000 in
theorem hn_kd76 : ∀ pc, pc < 145 → hn_cd 76 hn_k76 pc = true := by decide +kernel
set_option maxRecDepth 100000 in
theorem hn_kd77 : ∀ pc, pc < 65 → hn_cd 77 hn_k77 pc = true := by decide +kernel
set_option maxRecDepth 100000 in
theorem hn_kd78 : ∀ pc, pc < 42 → hn_cd 78 hn_k78 pc = true := by decide +kernel
set_option maxRecDepth 100000 in
theorem hn_kd79 : ∀ pc, pc < 36 → hn_cd 79 hn_k79 pc = true := by decide +kernel
set_option maxRecDepth 100000 in
theorem hn_kd80 : ∀ pc, pc < 72 → hn_cd 80 hn_k80 pc = true := by decide +kernel
set_option maxRecDepth 100000 in
theorem hn_kd81 : ∀ pc, pc < 101 → hn_cd 81 hn_k81 pc = true := by decide +kernel
set_option maxRecDepth 100000 in
theorem hn_kd82 : ∀ pc, pc < 1 → hn_cd 82 hn_k82 pc = true := by decide +kernel
set_option maxRecDepth 100000 in
theorem hn_kd83 : ∀ pc, pc < 43 → hn_cd 83 hn_k83 pc = true := by decide +kernel
set_option maxRecDepth 100000 in
theorem hn_kd84 : ∀ pc, pc < 50 → hn_cd 84 hn_k84 pc = true := by decide +kernel
set_option maxRecDepth 100000 in
theorem hn_kd85 : ∀ pc, pc < 34 → hn_cd 85 hn_k85 pc = true := by decide +kernel
set_option maxRecDepth 100000 in
theorem hn_kd86 : ∀ pc, pc < 1 → hn_cd 86 hn_k86 pc = true := by decide +kernel
set_option maxRecDepth 100000 in
theorem hn_kd87 : ∀ pc, pc < 1 → hn_cd 87 hn_k87 pc = true := by decide +kernel
set_option maxRecDepth 100000 in
theorem hn_kd88 : ∀ pc, pc < 8 → hn_cd 88 hn_k88 pc = true := by decide +kernel
set_option maxRecDepth 100000 in
theorem hn_kd89 : ∀ pc, pc < 59 → hn_cd 89 hn_k89 pc = true := by decide +kernel
set_option maxRecDepth 100000 in
theorem hn_kd90 : ∀ pc, pc < 27 → hn_cd 90 hn_k90 pc = true := by decide +kernel
set_option maxRecDepth 100000 in
theorem hn_kd91 : ∀ pc, pc < 269 → hn_cd 91 hn_k91 pc = true := by decide +kernel
set_option maxRecDepth 100000 in
theorem hn_kd92 : ∀ pc, pc < 18 → hn_cd 92 hn_k92 pc = true := by decide +kernel
set_option maxRecDepth 100000 in
theorem hn_kd93 : ∀ pc, pc < 147 → hn_cd 93 hn_k93 pc = true := by decide +kernel
set_option maxRecDepth 100000 in
theorem hn_kd94 : ∀ pc, pc < 16 → hn_cd 94 hn_k94 pc = true := by decide +kernel
set_option maxRecDepth 100000 in
theorem hn_kd95 : ∀ pc, pc < 14 → hn_cd 95 hn_k95 pc = true := by decide +kernel
set_option maxRecDepth 100000 in
theorem hn_kd96 : ∀ pc, pc < 25 → hn_cd 96 hn_k96 pc = true := by decide +kernel
set_option maxRecDepth 100000 in
theorem hn_kd97 : ∀ pc, pc < 7 → hn_cd 97 hn_k97 pc = true := by decide +kernel
set_option maxRecDepth 100000 in
theorem hn_kd98 : ∀ pc, pc < 26 → hn_cd 98 hn_k98 pc = true := by decide +kernel
set_option maxRecDepth 100000 in
theorem hn_kd99 : ∀ pc, pc < 364 → hn_cd 99 hn_k99 pc = true := by decide +kernel
set_option maxRecDepth 100000 in
theorem hn_kd100 : ∀ pc, pc < 99 → hn_cd 100 hn_k100 pc = true := by decide +kernel
set_option maxRecDepth 100000 in
theorem hn_kd101 : ∀ pc, pc < 1 → hn_cd 101 hn_k101 pc = true := by decide +kernel
set_option maxRecDepth 100000 in
theorem hn_kd102 : ∀ pc, pc < 1 → hn_cd 102 hn_k102 pc = true := by decide +kernel
set_option maxRecDepth 100000 in
theorem hn_kd103 : ∀ pc, pc < 1 → hn_cd 103 hn_k103 pc = true := by decide +kernel
set_option maxRecDepth 100000 in
theorem hn_kd104 : ∀ pc, pc < 1 → hn_cd 104 hn_k104 pc = true := by decide +kernel
set_option maxRecDepth 100000 in
theorem hn_kd105 : ∀ pc, pc < 1 → hn_cd 105 hn_k105 pc = true := by decide +kernel
set_option maxRecDepth 100000 in
theorem hn_kd106 : ∀ pc, pc < 1 → hn_cd 106 hn_k106 pc = true := by decide +kernel
set_option maxRecDepth 100000 in
theorem hn_kd107 : ∀ pc, pc < 1 → hn_cd 107 hn_k107 pc = true := by decide +kernel
set_option maxRecDepth 100000 in
theorem hn_kd108 : ∀ pc, pc < 1 → hn_cd 108 hn_k108 pc = true := by decide +kernel
set_option maxRecDepth 100000 in
theorem hn_kd109 : ∀ pc, pc < 1 → hn_cd 109 hn_k109 pc = true := by decide +kernel
set_option maxRecDepth 100000 in
theorem hn_kd110 : ∀ pc, pc < 1 → hn_cd 110 hn_k110 pc = true := by decide +kernel
set_option maxRecDepth 100000 in
theorem hn_kd111 : ∀ pc, pc < 1 → hn_cd 111 hn_k111 pc = true := by decide +kernel
set_option maxRecDepth 100000 in
theorem hn_kd112 : ∀ pc, pc < 1 → hn_cd 112 hn_k112 pc = true := by decide +kernel
set_option maxRecDepth 100000 in
theorem hn_kd113 : ∀ pc, pc < 1 → hn_cd 113 hn_k113 pc = true := by decide +kernel
set_option maxRecDepth 100000 in
theorem hn_kd114 : ∀ pc, pc < 1 → hn_cd 114 hn_k114 pc = true := by decide +kernel
set_option maxRecDepth 100000 in
theorem hn_kd115 : ∀ pc, pc < 1 → hn_cd 115 hn_k115 pc = true := by decide +kernel
set_option maxRecDepth 100000 in
theorem hn_kd116 : ∀ pc, pc < 1 → hn_cd 116 hn_k116 pc = true := by decide +kernel
set_option maxRecDepth 100000 in
theorem hn_kd117 : ∀ pc, pc < 1 → hn_cd 117 hn_k117 pc = true := by decide +kernel
set_option maxRecDepth 100000 in
theorem hn_kd118 : ∀ pc, pc < 1 → hn_cd 118 hn_k118 pc = true := by decide +kernel
set_option maxRecDepth 100000 in
theorem hn_kd119 : ∀ pc, pc < 1 → hn_cd 119 hn_k119 pc = true := by decide +kernel
set_option maxRecDepth 100000 in
theorem hn_kd120 : ∀ pc, pc < 1 → hn_cd 120 hn_k120 pc = true := by decide +kernel
set_option maxRecDepth 100000 in
theorem hn_kd121 : ∀ pc, pc < 1 → hn_cd 121 hn_k121 pc = true := by decide +kernel
set_option maxRecDepth 100000 in
theorem hn_kd122 : ∀ pc, pc < 1 → hn_cd 122 hn_k122 pc = true := by decide +kernel
set_option maxRecDepth 100000 in
theorem hn_kd123 : ∀ pc, pc < 1 → hn_cd 123 hn_k123 pc = true := by decide +kernel
set_option maxRecDepth 100000 in
theorem hn_kd124 : ∀ pc, pc < 1 → hn_cd 124 hn_k124 pc = true := by decide +kernel
set_option maxRecDepth 100000 in
theorem hn_kd125 : ∀ pc, pc < 1 → hn_cd 125 hn_k125 pc = true := by decide +kernel
set_option maxRecDepth 100000 in
theorem hn_kd126 : ∀ pc, pc < 1 → hn_cd 126 hn_k126 pc = true := by decide +kernel
set_option maxRecDepth 100000 in
theorem hn_kd127 : ∀ pc, pc < 1 → hn_cd 127 hn_k127 pc = true := by decide +kernel
set_option maxRecDepth 100000 in
theorem hn_kd128 : ∀ pc, pc < 1 → hn_cd 128 hn_k128 pc = true := by decide +kernel
set_option maxRecDepth 100000 in
theorem hn_kd129 : ∀ pc, pc < 1 → hn_cd 129 hn_k129 pc = true := by decide +kernel
set_option maxRecDepth 100000 in
theorem hn_kd130 : ∀ pc, pc < 1 → hn_cd 130 hn_k130 pc = true := by decide +kernel
set_option maxRecDepth 100000 in
theorem hn_kd131 : ∀ pc, pc < 1 → hn_cd 131 hn_k131 pc = true := by decide +kernel
set_option maxRecDepth 100000 in
theorem hn_kd132 : ∀ pc, pc < 1 → hn_cd 132 hn_k132 pc = true := by decide +kernel
set_option maxRecDepth 100000 in
theorem hn_kd133 : ∀ pc, pc < 1 → hn_cd 133 hn_k133 pc = true := by decide +kernel
set_option maxRecDepth 100000 in
theorem hn_kd134 : ∀ pc, pc < 1 → hn_cd 134 hn_k134 pc = true := by decide +kernel
set_option maxRecDepth 100000 in
theorem hn_kd135 : ∀ pc, pc < 1 → hn_cd 135 hn_k135 pc = true := by decide +kernel
set_option maxRecDepth 100000 in
theorem hn_kd136 : ∀ pc, pc < 1 → hn_cd 136 hn_k136 pc = true := by decide +kernel
set_option maxRecDepth 100000 in
theorem hn_kd137 : ∀ pc, pc < 1 → hn_cd 137 hn_k137 pc = true := by decide +kernel
set_option maxRecDepth 100000 in
theorem hn_kd138 : ∀ pc, pc < 1 → hn_cd 138 hn_k138 pc = true := by decide +kernel
set_option maxRecDepth 100000 in
theorem hn_kd139 : ∀ pc, pc < 1 → hn_cd 139 hn_k139 pc = true := by decide +kernel
set_option maxRecDepth 100000 in
theorem hn_kd140 : ∀ pc, pc < 1 → hn_cd 140 hn_k140 pc = true := by decide +kernel
set_option maxRecDepth 100000 in
theorem hn_kd141 : ∀ pc, pc < 1 → hn_cd 141 hn_k141 pc = true := by decide +kernel
set_option maxRecDepth 100000 in
theorem hn_kd142 : ∀ pc, pc < 1 → hn_cd 142 hn_k142 pc = true := by decide +kernel
set_option maxRecDepth 100000 in
theorem hn_kd143 : ∀ pc, pc < 1 → hn_cd 143 hn_k143 pc = true := by decide +kernel
set_option maxRecDepth 100000 in
theorem hn_kd144 : ∀ pc, pc < 1 → hn_cd 144 hn_k144 pc = true := by decide +kernel
set_option maxRecDepth 100000 in
theorem hn_kd145 : ∀ pc, pc < 1 → hn_cd 145 hn_k145 pc = true := by decide +kernel
set_option maxRecDepth 100000 in
theorem hn_kd146 : ∀ pc, pc < 1 → hn_cd 146 hn_k146 pc = true := by decide +kernel
set_option maxRecDepth 100000 in
theorem hn_kd147 : ∀ pc, pc < 1 → hn_cd 147 hn_k147 pc = true := by decide +kernel
set_option maxRecDepth 100000 in
theorem hn_kd148 : ∀ pc, pc < 1 → hn_cd 148 hn_k148 pc = true := by decide +kernel
set_option maxRecDepth 100000 in
theorem hn_kd149 : ∀ pc, pc < 1 → hn_cd 149 hn_k149 pc = true := by decide +kernel
set_option maxRecDepth 100000 in
theorem hn_kd150 : ∀ pc, pc < 1 → hn_cd 150 hn_k150 pc = true := by decide +kernel
set_option maxRecDepth 100000 in
theorem hn_kd151 : ∀ pc, pc < 1 → hn_cd 151 hn_k151 pc = true := by decide +kernel
set_option maxRecDepth 100000 in
theorem hn_kd152 : ∀ pc, pc < 1 → hn_cd 152 hn_k152 pc = true := by decide +kernel
set_option maxRecDepth 100000 in
theorem hn_kd153 : ∀ pc, pc < 1 → hn_cd 153 hn_k153 pc = true := by decide +kernel
set_option maxRecDepth 100000 in
theorem hn_kd154 : ∀ pc, pc < 1 → hn_cd 154 hn_k154 pc = true := by decide +kernel
set_option maxRecDepth 100000 in
theorem hn_kd155 : ∀ pc, pc < 1 → hn_cd 155 hn_k155 pc = true := by decide +kernel
set_option maxRecDepth 100000 in
theorem hn_kd156 : ∀ pc, pc < 1 → hn_cd 156 hn_k156 pc = true := by decide +kernel
set_option maxRecDepth 100000 in
theorem hn_kd157 : ∀ pc, pc < 1 → hn_cd 157 hn_k157 pc = true := by decide +kernel
set_option maxRecDepth 100000 in
theorem hn_kd158 : ∀ pc, pc < 1 → hn_cd 158 hn_k158 pc = true := by decide +kernel
set_option maxRecDepth 100000 in
theorem hn_kd159 : ∀ pc, pc < 1 → hn_cd 159 hn_k159 pc = true := by decide +kernel
set_option maxRecDepth 100000 in
theorem hn_kd160 : ∀ pc, pc < 1 → hn_cd 160 hn_k160 pc = true := by decide +kernel
set_option maxRecDepth 100000 in
theorem hn_kd161 : ∀ pc, pc < 1 → hn_cd 161 hn_k161 pc = true := by decide +kernel
set_option maxRecDepth 100000 in
theorem hn_kd162 : ∀ pc, pc < 1 → hn_cd 162 hn_k162 pc = true := by decide +kernel
set_option maxRecDepth 100000 in
theorem hn_kd163 : ∀ pc, pc < 53 → hn_cd 163 hn_k163 pc = true := by decide +kernel
set_option maxRecDepth 100000 in
theorem hn_kd164 : ∀ pc, pc < 11 → hn_cd 164 hn_k164 pc = true := by decide +kernel
set_option maxRecDepth 100000 in
theorem hn_kd165 : ∀ pc, pc < 11 → hn_cd 165 hn_k165 pc = true := by decide +kernel
set_option maxRecDepth 100000 in
theorem hn_kd166 : ∀ pc, pc < 11 → hn_cd 166 hn_k166 pc = true := by decide +kernel
set_option maxRecDepth 100000 in
theorem hn_kd167 : ∀ pc, pc < 21 → hn_cd 167 hn_k167 pc = true := by decide +kernel
set_option maxRecDepth 100000 in
theorem hn_kd168_0 : ∀ pc, pc < 48 → hn_cd 168 hn_k168 (pc + 0) = true := by decide +kernel
set_option maxRecDepth 100000 in
theorem hn_kd168_1 : ∀ pc, pc < 48 → hn_cd 168 hn_k168 (pc + 48) = true := by decide +kernel
set_option maxRecDepth 100000 in
theorem hn_kd168_2 : ∀ pc, pc < 48 → hn_cd 168 hn_k168 (pc + 96) = true := by decide +kernel
set_option maxRecDepth 100000 in
theorem hn_kd168_3 : ∀ pc, pc < 48 → hn_cd 168 hn_k168 (pc + 144) = true := by decide +kernel
set_option maxRecDepth 100000 in
theorem hn_kd168_4 : ∀ pc, pc < 48 → hn_cd 168 hn_k168 (pc + 192) = true := by decide +kernel
set_option maxRecDepth 100000 in
theorem hn_kd168_5 : ∀ pc, pc < 48 → hn_cd 168 hn_k168 (pc + 240) = true := by decide +kernel
set_option maxRecDepth 100000 in
theorem hn_kd168_6 : ∀ pc, pc < 48 → hn_cd 168 hn_k168 (pc + 288) = true := by decide +kernel
set_option maxRecDepth 100000 in
theorem hn_kd168_7 : ∀ pc, pc < 48 → hn_cd 168 hn_k168 (pc + 336) = true := by decide +kernel
set_option maxRecDepth 100000 in
theorem hn_kd168_8 : ∀ pc, pc < 48 → hn_cd 168 hn_k168 (pc + 384) = true := by decide +kernel
set_option maxRecDepth 100000 in
theorem hn_kd168_9 : ∀ pc, pc < 48 → hn_cd 168 hn_k168 (pc + 432) = true := by decide +kernel
set_option maxRecDepth 100000 in
theorem hn_kd168_10 : ∀ pc, pc < 48 → hn_cd 168 hn_k168 (pc + 480) = true := by decide +kernel
set_option maxRecDepth 100000 in
theorem hn_kd168_11 : ∀ pc, pc < 48 → hn_cd 168 hn_k168 (pc + 528) = true := by decide +kernel
set_option maxRecDepth 100000 in
theorem hn_kd168_12 : ∀ pc, pc < 48 → hn_cd 168 hn_k168 (pc + 576) = true := by decide +kernel
set_option maxRecDepth 100000 in
theorem hn_kd168_13 : ∀ pc, pc < 48 → hn_cd 168 hn_k168 (pc + 624) = true := by decide +kernel
set_option maxRecDepth 100000 in
theorem hn_kd168_14 : ∀ pc, pc < 48 → hn_cd 168 hn_k168 (pc + 672) = true := by decide +kernel
set_option maxRecDepth 100000 in
theorem hn_kd168_15 : ∀ pc, pc < 48 → hn_cd 168 hn_k168 (pc + 720) = true := by decide +kernel
set_option maxRecDepth 100000 in
theorem hn_kd168_16 : ∀ pc, pc < 48 → hn_cd 168 hn_k168 (pc + 768) = true := by decide +kernel
set_option maxRecDepth 100000 in
theorem hn_kd168_17 : ∀ pc, pc < 48 → hn_cd 168 hn_k168 (pc + 816) = true := by decide +kernel
set_option maxRecDepth 100000 in
theorem hn_kd168_18 : ∀ pc, pc < 48 → hn_cd 168 hn_k168 (pc + 864) = true := by decide +kernel
set_option maxRecDepth 100000 in
theorem hn_kd168_19 : ∀ pc, pc < 48 → hn_cd 168 hn_k168 (pc + 912) = true := by decide +kernel
set_option maxRecDepth 100000 in
theorem hn_kd168_20 : ∀ pc, pc < 48 → hn_cd 168 hn_k168 (pc + 960) = true := by decide +kernel
theorem hn_kd168 : ∀ pc, pc < 967 → hn_cd 168 hn_k168 pc = true := by
  intro pc h
  by_cases h0 : pc < 48
  · have e := hn_kd168_0 (pc - 0) (by omega)
    rwa [show pc - 0 + 0 = pc by omega] at e
  by_cases h1 : pc < 96
  · have e := hn_kd168_1 (pc - 48) (by omega)
    rwa [show pc - 48 + 48 = pc by omega] at e
  by_cases h2 : pc < 144
  · have e := hn_kd168_2 (pc - 96) (by omega)
    rwa [show pc - 96 + 96 = pc by omega] at e
  by_cases h3 : pc < 192
  · have e := hn_kd168_3 (pc - 144) (by omega)
    rwa [show pc - 144 + 144 = pc by omega] at e
  by_cases h4 : pc < 240
  · have e := hn_kd168_4 (pc - 192) (by omega)
    rwa [show pc - 192 + 192 = pc by omega] at e
  by_cases h5 : pc < 288
  · have e := hn_kd168_5 (pc - 240) (by omega)
    rwa [show pc - 240 + 240 = pc by omega] at e
  by_cases h6 : pc < 336
  · have e := hn_kd168_6 (pc - 288) (by omega)
    rwa [show pc - 288 + 288 = pc by omega] at e
  by_cases h7 : pc < 384
  · have e := hn_kd168_7 (pc - 336) (by omega)
    rwa [show pc - 336 + 336 = pc by omega] at e
  by_cases h8 : pc < 432
  · have e := hn_kd168_8 (pc - 384) (by omega)
    rwa [show pc - 384 + 384 = pc by omega] at e
  by_cases h9 : pc < 480
  · have e := hn_kd168_9 (pc - 432) (by omega)
    rwa [show pc - 432 + 432 = pc by omega] at e
  by_cases h10 : pc < 528
  · have e := hn_kd168_10 (pc - 480) (by omega)
    rwa [show pc - 480 + 480 = pc by omega] at e
  by_cases h11 : pc < 576
  · have e := hn_kd168_11 (pc - 528) (by omega)
    rwa [show pc - 528 + 528 = pc by omega] at e
  by_cases h12 : pc < 624
  · have e := hn_kd168_12 (pc - 576) (by omega)
    rwa [show pc - 576 + 576 = pc by omega] at e
  by_cases h13 : pc < 672
  · have e := hn_kd168_13 (pc - 624) (by omega)
    rwa [show pc - 624 + 624 = pc by omega] at e
  by_cases h14 : pc < 720
  · have e := hn_kd168_14 (pc - 672) (by omega)
    rwa [show pc - 672 + 672 = pc by omega] at e
  by_cases h15 : pc < 768
  · have e := hn_kd168_15 (pc - 720) (by omega)
    rwa [show pc - 720 + 720 = pc by omega] at e
  by_cases h16 : pc < 816
  · have e := hn_kd168_16 (pc - 768) (by omega)
    rwa [show pc - 768 + 768 = pc by omega] at e
  by_cases h17 : pc < 864
  · have e := hn_kd168_17 (pc - 816) (by omega)
    rwa [show pc - 816 + 816 = pc by omega] at e
  by_cases h18 : pc < 912
  · have e := hn_kd168_18 (pc - 864) (by omega)
    rwa [show pc - 864 + 864 = pc by omega] at e
  by_cases h19 : pc < 960
  · have e := hn_kd168_19 (pc - 912) (by omega)
    rwa [show pc - 912 + 912 = pc by omega] at e
  by_cases h20 : pc < 1008
  · have e := hn_kd168_20 (pc - 960) (by omega)
    rwa [show pc - 960 + 960 = pc by omega] at e
  omega
theorem hn_cdOf {m n : Nat} {k : Nat → Option (Instr × Nat)} (h : ∀ pc, pc < n → hn_cd m k pc = true) (h2 : ∀ pc, Nat.blt pc n = false → k pc = none) : ∀ pc, hn_cd m k pc = true := by
  intro pc
  by_cases hp : pc < n
  · exact h pc hp
  · have e : Nat.blt pc n = false := hn_bltF.mpr hp
    unfold hn_cd
    rw [h2 pc e]
theorem hn_kda : ∀ m, m < 169 → ∀ pc, hn_cd m (hn_code m) pc = true := by
  intro m hm
  match m, hm with
  | 0, _ => exact hn_cdOf hn_kd0 (fun pc e => by unfold hn_code; show hn_k0 pc = none; unfold hn_k0; rw [e]; rfl)
  | 1, _ => exact hn_cdOf hn_kd1 (fun pc e => by unfold hn_code; show hn_k1 pc = none; unfold hn_k1; rw [e]; rfl)
  | 2, _ => exact hn_cdOf hn_kd2 (fun pc e => by unfold hn_code; show hn_k2 pc = none; unfold hn_k2; rw [e]; rfl)
  | 3, _ => exact hn_cdOf hn_kd3 (fun pc e => by unfold hn_code; show hn_k3 pc = none; unfold hn_k3; rw [e]; rfl)
  | 4, _ => exact hn_cdOf hn_kd4 (fun pc e => by unfold hn_code; show hn_k4 pc = none; unfold hn_k4; rw [e]; rfl)
  | 5, _ => exact hn_cdOf hn_kd5 (fun pc e => by unfold hn_code; show hn_k5 pc = none; unfold hn_k5; rw [e]; rfl)
  | 6, _ => exact hn_cdOf hn_kd6 (fun pc e => by unfold hn_code; show hn_k6 pc = none; unfold hn_k6; rw [e]; rfl)
  | 7, _ => exact hn_cdOf hn_kd7 (fun pc e => by unfold hn_code; show hn_k7 pc = none; unfold hn_k7; rw [e]; rfl)
  | 8, _ => exact hn_cdOf hn_kd8 (fun pc e => by unfold hn_code; show hn_k8 pc = none; unfold hn_k8; rw [e]; rfl)
  | 9, _ => exact hn_cdOf hn_kd9 (fun pc e => by unfold hn_code; show hn_k9 pc = none; unfold hn_k9; rw [e]; rfl)
  | 10, _ => exact hn_cdOf hn_kd10 (fun pc e => by unfold hn_code; show hn_k10 pc = none; unfold hn_k10; rw [e]; rfl)
  | 11, _ => exact hn_cdOf hn_kd11 (fun pc e => by unfold hn_code; show hn_k11 pc = none; unfold hn_k11; rw [e]; rfl)
  | 12, _ => exact hn_cdOf hn_kd12 (fun pc e => by unfold hn_code; show hn_k12 pc = none; unfold hn_k12; rw [e]; rfl)
  | 13, _ => exact hn_cdOf hn_kd13 (fun pc e => by unfold hn_code; show hn_k13 pc = none; unfold hn_k13; rw [e]; rfl)
  | 14, _ => exact hn_cdOf hn_kd14 (fun pc e => by unfold hn_code; show hn_k14 pc = none; unfold hn_k14; rw [e]; rfl)
  | 15, _ => exact hn_cdOf hn_kd15 (fun pc e => by unfold hn_code; show hn_k15 pc = none; unfold hn_k15; rw [e]; rfl)
  | 16, _ => exact hn_cdOf hn_kd16 (fun pc e => by unfold hn_code; show hn_k16 pc = none; unfold hn_k16; rw [e]; rfl)
  | 17, _ => exact hn_cdOf hn_kd17 (fun pc e => by unfold hn_code; show hn_k17 pc = none; unfold hn_k17; rw [e]; rfl)
  | 18, _ => exact hn_cdOf hn_kd18 (fun pc e => by unfold hn_code; show hn_k18 pc = none; unfold hn_k18; rw [e]; rfl)
  | 19, _ => exact hn_cdOf hn_kd19 (fun pc e => by unfold hn_code; show hn_k19 pc = none; unfold hn_k19; rw [e]; rfl)
  | 20, _ => exact hn_cdOf hn_kd20 (fun pc e => by unfold hn_code; show hn_k20 pc = none; unfold hn_k20; rw [e]; rfl)
  | 21, _ => exact hn_cdOf hn_kd21 (fun pc e => by unfold hn_code; show hn_k21 pc = none; unfold hn_k21; rw [e]; rfl)
  | 22, _ => exact hn_cdOf hn_kd22 (fun pc e => by unfold hn_code; show hn_k22 pc = none; unfold hn_k22; rw [e]; rfl)
  | 23, _ => exact hn_cdOf hn_kd23 (fun pc e => by unfold hn_code; show hn_k23 pc = none; unfold hn_k23; rw [e]; rfl)
  | 24, _ => exact hn_cdOf hn_kd24 (fun pc e => by unfold hn_code; show hn_k24 pc = none; unfold hn_k24; rw [e]; rfl)
  | 25, _ => exact hn_cdOf hn_kd25 (fun pc e => by unfold hn_code; show hn_k25 pc = none; unfold hn_k25; rw [e]; rfl)
  | 26, _ => exact hn_cdOf hn_kd26 (fun pc e => by unfold hn_code; show hn_k26 pc = none; unfold hn_k26; rw [e]; rfl)
  | 27, _ => exact hn_cdOf hn_kd27 (fun pc e => by unfold hn_code; show hn_k27 pc = none; unfold hn_k27; rw [e]; rfl)
  | 28, _ => exact hn_cdOf hn_kd28 (fun pc e => by unfold hn_code; show hn_k28 pc = none; unfold hn_k28; rw [e]; rfl)
  | 29, _ => exact hn_cdOf hn_kd29 (fun pc e => by unfold hn_code; show hn_k29 pc = none; unfold hn_k29; rw [e]; rfl)
  | 30, _ => exact hn_cdOf hn_kd30 (fun pc e => by unfold hn_code; show hn_k30 pc = none; unfold hn_k30; rw [e]; rfl)
  | 31, _ => exact hn_cdOf hn_kd31 (fun pc e => by unfold hn_code; show hn_k31 pc = none; unfold hn_k31; rw [e]; rfl)
  | 32, _ => exact hn_cdOf hn_kd32 (fun pc e => by unfold hn_code; show hn_k32 pc = none; unfold hn_k32; rw [e]; rfl)
  | 33, _ => exact hn_cdOf hn_kd33 (fun pc e => by unfold hn_code; show hn_k33 pc = none; unfold hn_k33; rw [e]; rfl)
  | 34, _ => exact hn_cdOf hn_kd34 (fun pc e => by unfold hn_code; show hn_k34 pc = none; unfold hn_k34; rw [e]; rfl)
  | 35, _ => exact hn_cdOf hn_kd35 (fun pc e => by unfold hn_code; show hn_k35 pc = none; unfold hn_k35; rw [e]; rfl)
  | 36, _ => exact hn_cdOf hn_kd36 (fun pc e => by unfold hn_code; show hn_k36 pc = none; unfold hn_k36; rw [e]; rfl)
  | 37, _ => exact hn_cdOf hn_kd37 (fun pc e => by unfold hn_code; show hn_k37 pc = none; unfold hn_k37; rw [e]; rfl)
  | 38, _ => exact hn_cdOf hn_kd38 (fun pc e => by unfold hn_code; show hn_k38 pc = none; unfold hn_k38; rw [e]; rfl)
  | 39, _ => exact hn_cdOf hn_kd39 (fun pc e => by unfold hn_code; show hn_k39 pc = none; unfold hn_k39; rw [e]; rfl)
  | 40, _ => exact hn_cdOf hn_kd40 (fun pc e => by unfold hn_code; show hn_k40 pc = none; unfold hn_k40; rw [e]; rfl)
  | 41, _ => exact hn_cdOf hn_kd41 (fun pc e => by unfold hn_code; show hn_k41 pc = none; unfold hn_k41; rw [e]; rfl)
  | 42, _ => exact hn_cdOf hn_kd42 (fun pc e => by unfold hn_code; show hn_k42 pc = none; unfold hn_k42; rw [e]; rfl)
  | 43, _ => exact hn_cdOf hn_kd43 (fun pc e => by unfold hn_code; show hn_k43 pc = none; unfold hn_k43; rw [e]; rfl)
  | 44, _ => exact hn_cdOf hn_kd44 (fun pc e => by unfold hn_code; show hn_k44 pc = none; unfold hn_k44; rw [e]; rfl)
  | 45, _ => exact hn_cdOf hn_kd45 (fun pc e => by unfold hn_code; show hn_k45 pc = none; unfold hn_k45; rw [e]; rfl)
  | 46, _ => exact hn_cdOf hn_kd46 (fun pc e => by unfold hn_code; show hn_k46 pc = none; unfold hn_k46; rw [e]; rfl)
  | 47, _ => exact hn_cdOf hn_kd47 (fun pc e => by unfold hn_code; show hn_k47 pc = none; unfold hn_k47; rw [e]; rfl)
  | 48, _ => exact hn_cdOf hn_kd48 (fun pc e => by unfold hn_code; show hn_k48 pc = none; unfold hn_k48; rw [e]; rfl)
  | 49, _ => exact hn_cdOf hn_kd49 (fun pc e => by unfold hn_code; show hn_k49 pc = none; unfold hn_k49; rw [e]; rfl)
  | 50, _ => exact hn_cdOf hn_kd50 (fun pc e => by unfold hn_code; show hn_k50 pc = none; unfold hn_k50; rw [e]; rfl)
  | 51, _ => exact hn_cdOf hn_kd51 (fun pc e => by unfold hn_code; show hn_k51 pc = none; unfold hn_k51; rw [e]; rfl)
  | 52, _ => exact hn_cdOf hn_kd52 (fun pc e => by unfold hn_code; show hn_k52 pc = none; unfold hn_k52; rw [e]; rfl)
  | 53, _ => exact hn_cdOf hn_kd53 (fun pc e => by unfold hn_code; show hn_k53 pc = none; unfold hn_k53; rw [e]; rfl)
  | 54, _ => exact hn_cdOf hn_kd54 (fun pc e => by unfold hn_code; show hn_k54 pc = none; unfold hn_k54; rw [e]; rfl)
  | 55, _ => exact hn_cdOf hn_kd55 (fun pc e => by unfold hn_code; show hn_k55 pc = none; unfold hn_k55; rw [e]; rfl)
  | 56, _ => exact hn_cdOf hn_kd56 (fun pc e => by unfold hn_code; show hn_k56 pc = none; unfold hn_k56; rw [e]; rfl)
  | 57, _ => exact hn_cdOf hn_kd57 (fun pc e => by unfold hn_code; show hn_k57 pc = none; unfold hn_k57; rw [e]; rfl)
  | 58, _ => exact hn_cdOf hn_kd58 (fun pc e => by unfold hn_code; show hn_k58 pc = none; unfold hn_k58; rw [e]; rfl)
  | 59, _ => exact hn_cdOf hn_kd59 (fun pc e => by unfold hn_code; show hn_k59 pc = none; unfold hn_k59; rw [e]; rfl)
  | 60, _ => exact hn_cdOf hn_kd60 (fun pc e => by unfold hn_code; show hn_k60 pc = none; unfold hn_k60; rw [e]; rfl)
  | 61, _ => exact hn_cdOf hn_kd61 (fun pc e => by unfold hn_code; show hn_k61 pc = none; unfold hn_k61; rw [e]; rfl)
  | 62, _ => exact hn_cdOf hn_kd62 (fun pc e => by unfold hn_code; show hn_k62 pc = none; unfold hn_k62; rw [e]; rfl)
  | 63, _ => exact hn_cdOf hn_kd63 (fun pc e => by unfold hn_code; show hn_k63 pc = none; unfold hn_k63; rw [e]; rfl)
  | 64, _ => exact hn_cdOf hn_kd64 (fun pc e => by unfold hn_code; show hn_k64 pc = none; unfold hn_k64; rw [e]; rfl)
  | 65, _ => exact hn_cdOf hn_kd65 (fun pc e => by unfold hn_code; show hn_k65 pc = none; unfold hn_k65; rw [e]; rfl)
  | 66, _ => exact hn_cdOf hn_kd66 (fun pc e => by unfold hn_code; show hn_k66 pc = none; unfold hn_k66; rw [e]; rfl)
  | 67, _ => exact hn_cdOf hn_kd67 (fun pc e => by unfold hn_code; show hn_k67 pc = none; unfold hn_k67; rw [e]; rfl)
  | 68, _ => exact hn_cdOf hn_kd68 (fun pc e => by unfold hn_code; show hn_k68 pc = none; unfold hn_k68; rw [e]; rfl)
  | 69, _ => exact hn_cdOf hn_kd69 (fun pc e => by unfold hn_code; show hn_k69 pc = none; unfold hn_k69; rw [e]; rfl)
  | 70, _ => exact hn_cdOf hn_kd70 (fun pc e => by unfold hn_code; show hn_k70 pc = none; unfold hn_k70; rw [e]; rfl)
  | 71, _ => exact hn_cdOf hn_kd71 (fun pc e => by unfold hn_code; show hn_k71 pc = none; unfold hn_k71; rw [e]; rfl)
  | 72, _ => exact hn_cdOf hn_kd72 (fun pc e => by unfold hn_code; show hn_k72 pc = none; unfold hn_k72; rw [e]; rfl)
  | 73, _ => exact hn_cdOf hn_kd73 (fun pc e => by unfold hn_code; show hn_k73 pc = none; unfold hn_k73; rw [e]; rfl)
  | 74, _ => exact hn_cdOf hn_kd74 (fun pc e => by unfold hn_code; show hn_k74 pc = none; unfold hn_k74; rw [e]; rfl)
  | 75, _ => exact hn_cdOf hn_kd75 (fun pc e => by unfold hn_code; show hn_k75 pc = none; unfold hn_k75; rw [e]; rfl)
  | 76, _ => exact hn_cdOf hn_kd76 (fun pc e => by unfold hn_code; show hn_k76 pc = none; unfold hn_k76; rw [e]; rfl)
  | 77, _ => exact hn_cdOf hn_kd77 (fun pc e => by unfold hn_code; show hn_k77 pc = none; unfold hn_k77; rw [e]; rfl)
  | 78, _ => exact hn_cdOf hn_kd78 (fun pc e => by unfold hn_code; show hn_k78 pc = none; unfold hn_k78; rw [e]; rfl)
  | 79, _ => exact hn_cdOf hn_kd79 (fun pc e => by unfold hn_code; show hn_k79 pc = none; unfold hn_k79; rw [e]; rfl)
  | 80, _ => exact hn_cdOf hn_kd80 (fun pc e => by unfold hn_code; show hn_k80 pc = none; unfold hn_k80; rw [e]; rfl)
  | 81, _ => exact hn_cdOf hn_kd81 (fun pc e => by unfold hn_code; show hn_k81 pc = none; unfold hn_k81; rw [e]; rfl)
  | 82, _ => exact hn_cdOf hn_kd82 (fun pc e => by unfold hn_code; show hn_k82 pc = none; unfold hn_k82; rw [e]; rfl)
  | 83, _ => exact hn_cdOf hn_kd83 (fun pc e => by unfold hn_code; show hn_k83 pc = none; unfold hn_k83; rw [e]; rfl)
  | 84, _ => exact hn_cdOf hn_kd84 (fun pc e => by unfold hn_code; show hn_k84 pc = none; unfold hn_k84; rw [e]; rfl)
  | 85, _ => exact hn_cdOf hn_kd85 (fun pc e => by unfold hn_code; show hn_k85 pc = none; unfold hn_k85; rw [e]; rfl)
  | 86, _ => exact hn_cdOf hn_kd86 (fun pc e => by unfold hn_code; show hn_k86 pc = none; unfold hn_k86; rw [e]; rfl)
  | 87, _ => exact hn_cdOf hn_kd87 (fun pc e => by unfold hn_code; show hn_k87 pc = none; unfold hn_k87; rw [e]; rfl)
  | 88, _ => exact hn_cdOf hn_kd88 (fun pc e => by unfold hn_code; show hn_k88 pc = none; unfold hn_k88; rw [e]; rfl)
  | 89, _ => exact hn_cdOf hn_kd89 (fun pc e => by unfold hn_code; show hn_k89 pc = none; unfold hn_k89; rw [e]; rfl)
  | 90, _ => exact hn_cdOf hn_kd90 (fun pc e => by unfold hn_code; show hn_k90 pc = none; unfold hn_k90; rw [e]; rfl)
  | 91, _ => exact hn_cdOf hn_kd91 (fun pc e => by unfold hn_code; show hn_k91 pc = none; unfold hn_k91; rw [e]; rfl)
  | 92, _ => exact hn_cdOf hn_kd92 (fun pc e => by unfold hn_code; show hn_k92 pc = none; unfold hn_k92; rw [e]; rfl)
  | 93, _ => exact hn_cdOf hn_kd93 (fun pc e => by unfold hn_code; show hn_k93 pc = none; unfold hn_k93; rw [e]; rfl)
  | 94, _ => exact hn_cdOf hn_kd94 (fun pc e => by unfold hn_code; show hn_k94 pc = none; unfold hn_k94; rw [e]; rfl)
  | 95, _ => exact hn_cdOf hn_kd95 (fun pc e => by unfold hn_code; show hn_k95 pc = none; unfold hn_k95; rw [e]; rfl)
  | 96, _ => exact hn_cdOf hn_kd96 (fun pc e => by unfold hn_code; show hn_k96 pc = none; unfold hn_k96; rw [e]; rfl)
  | 97, _ => exact hn_cdOf hn_kd97 (fun pc e => by unfold hn_code; show hn_k97 pc = none; unfold hn_k97; rw [e]; rfl)
  | 98, _ => exact hn_cdOf hn_kd98 (fun pc e => by unfold hn_code; show hn_k98 pc = none; unfold hn_k98; rw [e]; rfl)
  | 99, _ => exact hn_cdOf hn_kd99 (fun pc e => by unfold hn_code; show hn_k99 pc = none; unfold hn_k99; rw [e]; rfl)
  | 100, _ => exact hn_cdOf hn_kd100 (fun pc e => by unfold hn_code; show hn_k100 pc = none; unfold hn_k100; rw [e]; rfl)
  | 101, _ => exact hn_cdOf hn_kd101 (fun pc e => by unfold hn_code; show hn_k101 pc = none; unfold hn_k101; rw [e]; rfl)
  | 102, _ => exact hn_cdOf hn_kd102 (fun pc e => by unfold hn_code; show hn_k102 pc = none; unfold hn_k102; rw [e]; rfl)
  | 103, _ => exact hn_cdOf hn_kd103 (fun pc e => by unfold hn_code; show hn_k103 pc = none; unfold hn_k103; rw [e]; rfl)
  | 104, _ => exact hn_cdOf hn_kd104 (fun pc e => by unfold hn_code; show hn_k104 pc = none; unfold hn_k104; rw [e]; rfl)
  | 105, _ => exact hn_cdOf hn_kd105 (fun pc e => by unfold hn_code; show hn_k105 pc = none; unfold hn_k105; rw [e]; rfl)
  | 106, _ => exact hn_cdOf hn_kd106 (fun pc e => by unfold hn_code; show hn_k106 pc = none; unfold hn_k106; rw [e]; rfl)
  | 107, _ => exact hn_cdOf hn_kd107 (fun pc e => by unfold hn_code; show hn_k107 pc = none; unfold hn_k107; rw [e]; rfl)
  | 108, _ => exact hn_cdOf hn_kd108 (fun pc e => by unfold hn_code; show hn_k108 pc = none; unfold hn_k108; rw [e]; rfl)
  | 109, _ => exact hn_cdOf hn_kd109 (fun pc e => by unfold hn_code; show hn_k109 pc = none; unfold hn_k109; rw [e]; rfl)
  | 110, _ => exact hn_cdOf hn_kd110 (fun pc e => by unfold hn_code; show hn_k110 pc = none; unfold hn_k110; rw [e]; rfl)
  | 111, _ => exact hn_cdOf hn_kd111 (fun pc e => by unfold hn_code; show hn_k111 pc = none; unfold hn_k111; rw [e]; rfl)
  | 112, _ => exact hn_cdOf hn_kd112 (fun pc e => by unfold hn_code; show hn_k112 pc = none; unfold hn_k112; rw [e]; rfl)
  | 113, _ => exact hn_cdOf hn_kd113 (fun pc e => by unfold hn_code; show hn_k113 pc = none; unfold hn_k113; rw [e]; rfl)
  | 114, _ => exact hn_cdOf hn_kd114 (fun pc e => by unfold hn_code; show hn_k114 pc = none; unfold hn_k114; rw [e]; rfl)
  | 115, _ => exact hn_cdOf hn_kd115 (fun pc e => by unfold hn_code; show hn_k115 pc = none; unfold hn_k115; rw [e]; rfl)
  | 116, _ => exact hn_cdOf hn_kd116 (fun pc e => by unfold hn_code; show hn_k116 pc = none; unfold hn_k116; rw [e]; rfl)
  | 117, _ => exact hn_cdOf hn_kd117 (fun pc e => by unfold hn_code; show hn_k117 pc = none; unfold hn_k117; rw [e]; rfl)
  | 118, _ => exact hn_cdOf hn_kd118 (fun pc e => by unfold hn_code; show hn_k118 pc = none; unfold hn_k118; rw [e]; rfl)
  | 119, _ => exact hn_cdOf hn_kd119 (fun pc e => by unfold hn_code; show hn_k119 pc = none; unfold hn_k119; rw [e]; rfl)
  | 120, _ => exact hn_cdOf hn_kd120 (fun pc e => by unfold hn_code; show hn_k120 pc = none; unfold hn_k120; rw [e]; rfl)
  | 121, _ => exact hn_cdOf hn_kd121 (fun pc e => by unfold hn_code; show hn_k121 pc = none; unfold hn_k121; rw [e]; rfl)
  | 122, _ => exact hn_cdOf hn_kd122 (fun pc e => by unfold hn_code; show hn_k122 pc = none; unfold hn_k122; rw [e]; rfl)
  | 123, _ => exact hn_cdOf hn_kd123 (fun pc e => by unfold hn_code; show hn_k123 pc = none; unfold hn_k123; rw [e]; rfl)
  | 124, _ => exact hn_cdOf hn_kd124 (fun pc e => by unfold hn_code; show hn_k124 pc = none; unfold hn_k124; rw [e]; rfl)
  | 125, _ => exact hn_cdOf hn_kd125 (fun pc e => by unfold hn_code; show hn_k125 pc = none; unfold hn_k125; rw [e]; rfl)
  | 126, _ => exact hn_cdOf hn_kd126 (fun pc e => by unfold hn_code; show hn_k126 pc = none; unfold hn_k126; rw [e]; rfl)
  | 127, _ => exact hn_cdOf hn_kd127 (fun pc e => by unfold hn_code; show hn_k127 pc = none; unfold hn_k127; rw [e]; rfl)
  | 128, _ => exact hn_cdOf hn_kd128 (fun pc e => by unfold hn_code; show hn_k128 pc = none; unfold hn_k128; rw [e]; rfl)
  | 129, _ => exact hn_cdOf hn_kd129 (fun pc e => by unfold hn_code; show hn_k129 pc = none; unfold hn_k129; rw [e]; rfl)
  | 130, _ => exact hn_cdOf hn_kd130 (fun pc e => by unfold hn_code; show hn_k130 pc = none; unfold hn_k130; rw [e]; rfl)
  | 131, _ => exact hn_cdOf hn_kd131 (fun pc e => by unfold hn_code; show hn_k131 pc = none; unfold hn_k131; rw [e]; rfl)
  | 132, _ => exact hn_cdOf hn_kd132 (fun pc e => by unfold hn_code; show hn_k132 pc = none; unfold hn_k132; rw [e]; rfl)
  | 133, _ => exact hn_cdOf hn_kd133 (fun pc e => by unfold hn_code; show hn_k133 pc = none; unfold hn_k133; rw [e]; rfl)
  | 134, _ => exact hn_cdOf hn_kd134 (fun pc e => by unfold hn_code; show hn_k134 pc = none; unfold hn_k134; rw [e]; rfl)
  | 135, _ => exact hn_cdOf hn_kd135 (fun pc e => by unfold hn_code; show hn_k135 pc = none; unfold hn_k135; rw [e]; rfl)
  | 136, _ => exact hn_cdOf hn_kd136 (fun pc e => by unfold hn_code; show hn_k136 pc = none; unfold hn_k136; rw [e]; rfl)
  | 137, _ => exact hn_cdOf hn_kd137 (fun pc e => by unfold hn_code; show hn_k137 pc = none; unfold hn_k137; rw [e]; rfl)
  | 138, _ => exact hn_cdOf hn_kd138 (fun pc e => by unfold hn_code; show hn_k138 pc = none; unfold hn_k138; rw [e]; rfl)
  | 139, _ => exact hn_cdOf hn_kd139 (fun pc e => by unfold hn_code; show hn_k139 pc = none; unfold hn_k139; rw [e]; rfl)
  | 140, _ => exact hn_cdOf hn_kd140 (fun pc e => by unfold hn_code; show hn_k140 pc = none; unfold hn_k140; rw [e]; rfl)
  | 141, _ => exact hn_cdOf hn_kd141 (fun pc e => by unfold hn_code; show hn_k141 pc = none; unfold hn_k141; rw [e]; rfl)
  | 142, _ => exact hn_cdOf hn_kd142 (fun pc e => by unfold hn_code; show hn_k142 pc = none; unfold hn_k142; rw [e]; rfl)
  | 143, _ => exact hn_cdOf hn_kd143 (fun pc e => by unfold hn_code; show hn_k143 pc = none; unfold hn_k143; rw [e]; rfl)
  | 144, _ => exact hn_cdOf hn_kd144 (fun pc e => by unfold hn_code; show hn_k144 pc = none; unfold hn_k144; rw [e]; rfl)
  | 145, _ => exact hn_cdOf hn_kd145 (fun pc e => by unfold hn_code; show hn_k145 pc = none; unfold hn_k145; rw [e]; rfl)
  | 146, _ => exact hn_cdOf hn_kd146 (fun pc e => by unfold hn_code; show hn_k146 pc = none; unfold hn_k146; rw [e]; rfl)
  | 147, _ => exact hn_cdOf hn_kd147 (fun pc e => by unfold hn_code; show hn_k147 pc = none; unfold hn_k147; rw [e]; rfl)
  | 148, _ => exact hn_cdOf hn_kd148 (fun pc e => by unfold hn_code; show hn_k148 pc = none; unfold hn_k148; rw [e]; rfl)
  | 149, _ => exact hn_cdOf hn_kd149 (fun pc e => by unfold hn_code; show hn_k149 pc = none; unfold hn_k149; rw [e]; rfl)
  | 150, _ => exact hn_cdOf hn_kd150 (fun pc e => by unfold hn_code; show hn_k150 pc = none; unfold hn_k150; rw [e]; rfl)
  | 151, _ => exact hn_cdOf hn_kd151 (fun pc e => by unfold hn_code; show hn_k151 pc = none; unfold hn_k151; rw [e]; rfl)
  | 152, _ => exact hn_cdOf hn_kd152 (fun pc e => by unfold hn_code; show hn_k152 pc = none; unfold hn_k152; rw [e]; rfl)
  | 153, _ => exact hn_cdOf hn_kd153 (fun pc e => by unfold hn_code; show hn_k153 pc = none; unfold hn_k153; rw [e]; rfl)
  | 154, _ => exact hn_cdOf hn_kd154 (fun pc e => by unfold hn_code; show hn_k154 pc = none; unfold hn_k154; rw [e]; rfl)
  | 155, _ => exact hn_cdOf hn_kd155 (fun pc e => by unfold hn_code; show hn_k155 pc = none; unfold hn_k155; rw [e]; rfl)
  | 156, _ => exact hn_cdOf hn_kd156 (fun pc e => by unfold hn_code; show hn_k156 pc = none; unfold hn_k156; rw [e]; rfl)
  | 157, _ => exact hn_cdOf hn_kd157 (fun pc e => by unfold hn_code; show hn_k157 pc = none; unfold hn_k157; rw [e]; rfl)
  | 158, _ => exact hn_cdOf hn_kd158 (fun pc e => by unfold hn_code; show hn_k158 pc = none; unfold hn_k158; rw [e]; rfl)
  | 159, _ => exact hn_cdOf hn_kd159 (fun pc e => by unfold hn_code; show hn_k159 pc = none; unfold hn_k159; rw [e]; rfl)
  | 160, _ => exact hn_cdOf hn_kd160 (fun pc e => by unfold hn_code; show hn_k160 pc = none; unfold hn_k160; rw [e]; rfl)
  | 161, _ => exact hn_cdOf hn_kd161 (fun pc e => by unfold hn_code; show hn_k161 pc = none; unfold hn_k161; rw [e]; rfl)
  | 162, _ => exact hn_cdOf hn_kd162 (fun pc e => by unfold hn_code; show hn_k162 pc = none; unfold hn_k162; rw [e]; rfl)
  | 163, _ => exact hn_cdOf hn_kd163 (fun pc e => by unfold hn_code; show hn_k163 pc = none; unfold hn_k163; rw [e]; rfl)
  | 164, _ => exact hn_cdOf hn_kd164 (fun pc e => by unfold hn_code; show hn_k164 pc = none; unfold hn_k164; rw [e]; rfl)
  | 165, _ => exact hn_cdOf hn_kd165 (fun pc e => by unfold hn_code; show hn_k165 pc = none; unfold hn_k165; rw [e]; rfl)
  | 166, _ => exact hn_cdOf hn_kd166 (fun pc e => by unfold hn_code; show hn_k166 pc = none; unfold hn_k166; rw [e]; rfl)
  | 167, _ => exact hn_cdOf hn_kd167 (fun pc e => by unfold hn_code; show hn_k167 pc = none; unfold hn_k167; rw [e]; rfl)
  | 168, _ => exact hn_cdOf hn_kd168 (fun pc e => by unfold hn_code; show hn_k168 pc = none; unfold hn_k168; rw [e]; rfl)
  | n + 169, h => exact absurd h (by omega)
