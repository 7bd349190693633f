/-! one instruction of the shadow is one of the machine; then calls, then whole methods -/
def hn_oS (st : List hn_V) : Prop := ∀ x, (.inl x : hn_V) ∈ st → hn_R x
theorem hn_oS.t {v : hn_V} {st : List hn_V} (h : hn_oS (v :: st)) : hn_oS st := fun x hx => h x (List.mem_cons_of_mem _ hx)
theorem hn_oS.h {x : Int} {st : List hn_V} (h : hn_oS (.inl x :: st)) : hn_R x := h x List.mem_cons_self
theorem hn_oS.i {x : Int} {st : List hn_V} (hx : hn_R x) (h : hn_oS st) : hn_oS (.inl x :: st) := fun y hy => by
  rcases List.mem_cons.mp hy with e | e
  · cases e; exact hx
  · exact h y e
theorem hn_oS.n {v : hn_V} {st : List hn_V} (hv : ∀ x, v ≠ .inl x) (h : hn_oS st) : hn_oS (v :: st) := fun y hy => by
  rcases List.mem_cons.mp hy with e | e
  · exact absurd e.symm (hv y)
  · exact h y e
theorem hn_oS.c {v w : hn_V} {st : List hn_V} (h1 : hn_oS (v :: st)) (h : hn_oS (w :: st)) : hn_oS (v :: w :: st) := fun y hy => by
  rcases List.mem_cons.mp hy with e | e
  · exact h1 y (by rw [e]; exact List.mem_cons_self)
  · exact h y e
theorem hn_oS.m {s t : List hn_V} (h1 : hn_oS s) (h : ∀ u, u ∈ t → u ∈ s) : hn_oS t := fun y hy => h1 y (h _ hy)
theorem hn_oS.a {s t : List hn_V} (h1 : hn_oS s) (h : hn_oS t) : hn_oS (s ++ t) := fun y hy => by
  rcases List.mem_append.mp hy with e | e
  · exact h1 y e
  · exact h y e
def hn_oM (M : hn_Mem) : Prop := ∀ o j, hn_R (M.2.1 o j)
theorem hn_oM.up {M : hn_Mem} {o j : Nat} {x : Int} (h : hn_oM M) (hx : hn_R x) : hn_oM (M.1, hn_up M.2.1 o j x, M.2.2) := fun o' j' => by
  show hn_R (hn_up M.2.1 o j x o' j')
  unfold hn_up
  cases Nat.beq o' o <;> cases Nat.beq j' j <;> first | exact hx | exact h _ _
theorem hn_oM.new {M : hn_Mem} {s : hn_Sh} (h : hn_oM M) : hn_oM (hn_new M s) := fun o' j' => by
  show hn_R (hn_zr M.2.1 M.1.length 0 o' j')
  unfold hn_zr
  cases Nat.beq o' M.1.length <;> first | exact hn_R0 | exact h _ _
theorem hn_oM.cp {M : hn_Mem} {a0 sp a dp n : Nat} (h : hn_oM M) : hn_oM (M.1, hn_cp M.2.1 a0 sp a dp n, M.2.2) := fun o' j' => by
  show hn_R (hn_cp M.2.1 a0 sp a dp n o' j')
  unfold hn_cp
  cases Nat.beq o' a <;> cases (Nat.ble dp j' && Nat.blt j' (dp + n)) <;> exact h _ _
def hn_oL (ls : hn_Ls) : Prop := ∀ (i : Nat) (x : Int), ls[i]? = some (some (.inl x)) → hn_R x
theorem hn_oL.set {ls : hn_Ls} {i : Nat} {v : hn_V} (h : hn_oL ls) (hv : ∀ x, v = .inl x → hn_R x) : hn_oL (hn_set ls i v) := fun j x hx => by
  rcases hn_set_get hx with ⟨-, e⟩ | ⟨-, e, -⟩
  · exact hv x e.symm
  · exact h j x e
theorem hn_oL.set2 {ls : hn_Ls} {i : Nat} {l : Int64} (h : hn_oL ls) : hn_oL (hn_set2 ls i (.inr (.inl l))) := fun j x hx => by
  rcases hn_set2_get hx with ⟨-, e⟩ | ⟨-, -, e, -⟩
  · cases e
  · exact h j x e
/-- what is known of a frame -/
def hn_Fr (D : va_G) (base : Nat) (cI cS : ClassId) (b nL : Nat) (s : State) (M : hn_Mem) (ls : hn_Ls) (st : List hn_V) (H : Heap) (locs : List Loc) (a : Array Slot) : Prop :=
  hn_Wd D base cI cS M H ∧ hn_oM M ∧ hn_lv base b nL ls a ∧ hn_oL ls ∧ hn_oS st ∧ va_S (hn_A base) s.heap H locs
/-- what is known of a method's run: the machine, the tables, the script, the room -/
def hn_X (p : Program) (R : Room) (s : State) (m : MethodId) (args : Array Value) (meth : Method) (c : Code) (D : va_G) (base : Nat) (cI cS : ClassId) (b sL : Nat) (xs : Nat → Int32) (mi d n0 s0 : Nat) (Mend : hn_Mem) : Prop :=
  (p.tables.exec = Jvm.exec ∧ c.code = hn_c mi ∧ c.maxLocals = hn_ml mi ∧ s.vm.findClass (hn_cn (hn_oc mi)) = some m.cls) ∧ (∀ w ∈ hn_T, w.before args s = true) ∧ ((hn_mk mi = 2 → meth.name = "<init>") ∧ hn_N s) ∧ va_K D hn_cl (hn_tys cI cS) s ∧ (base ≤ s.heap.size ∧ va_X b sL xs s s.heap ∧ b < base ∧ sL < 2147483648) ∧ (d + 1 ≤ R.frames ∧ d * 64 + 64 ≤ R.locals ∧ Mend.1.length - n0 ≤ R.cells ∧ hn_sz Mend.1 - s0 ≤ R.slots)
section HNG
variable {p : Program} {l : Launch} {e : Env} {R : Room} {s : State} {m : MethodId} {args : Array Value} {below : List Frame} {meth : Method} {c : Code} {Q : State → Prop}
variable {D : va_G} {base : Nat} {cI cS : ClassId} {b sL : Nat} {xs : Nat → Int32} {mi d n0 s0 : Nat} {r : Option hn_V} {Mend : hn_Mem}
/-- the machine, at this place, comes to Q -/
def hn_GW (p : Program) (l : Launch) (e : Env) (R : Room) (s : State) (m : MethodId) (args : Array Value) (below : List Frame) (meth : Method) (c : Code) (D : va_G) (base : Nat) (cI cS : ClassId) (b mi n0 s0 : Nat) (Q : State → Prop) (pc : Nat) (ls : hn_Ls) (st : List hn_V) (M : hn_Mem) : Prop :=
  n0 ≤ M.1.length → s0 ≤ hn_sz M.1 → ∀ (H : Heap) (locs : List Loc) (a : Array Slot), hn_Fr D base cI cS b (hn_ml mi) s M ls st H locs a → W p l e R s m args below meth c H locs (M.1.length - n0) (hn_sz M.1 - s0) Q (F0 m pc a (st.map (hn_cv base b)))
def hn_G (p : Program) (l : Launch) (e : Env) (R : Room) (s : State) (m : MethodId) (args : Array Value) (below : List Frame) (meth : Method) (c : Code) (D : va_G) (base : Nat) (cI cS : ClassId) (b mi n0 s0 : Nat) (Q : State → Prop) (r : Option hn_V) (Mend : hn_Mem) : hn_St → Prop
  | .inr x => x = (r, Mend)
  | .inl (m', pc, ls, st, M) => m' = mi → (M.1.length ≤ Mend.1.length ∧ hn_sz M.1 ≤ hn_sz Mend.1) ∧ hn_GW p l e R s m args below meth c D base cI cS b mi n0 s0 Q pc ls st M
theorem hn_pure {pc pc' : Nat} {ls : hn_Ls} {st st' : List hn_V} {M : hn_Mem} (hk : hn_G p l e R s m args below meth c D base cI cS b mi n0 s0 Q r Mend (hn_nx mi pc' ls st' M)) (hst : hn_oS st → hn_oL ls → hn_oM M → hn_oS st')
    (row : ∀ (H : Heap) (locs : List Loc) (cells slots : Nat) (a : Array Slot), hn_Fr D base cI cS b (hn_ml mi) s M ls st H locs a → W p l e R s m args below meth c H locs cells slots Q (F0 m pc' a (st'.map (hn_cv base b))) → W p l e R s m args below meth c H locs cells slots Q (F0 m pc a (st.map (hn_cv base b)))) :
    hn_GW p l e R s m args below meth c D base cI cS b mi n0 s0 Q pc ls st M := by
  intro h1 h2 H locs a hF
  exact row H locs _ _ a hF ((hk rfl).2 h1 h2 H locs a ⟨hF.1, hF.2.1, hF.2.2.1, hF.2.2.2.1, hst hF.2.2.2.2.1 hF.2.2.2.1 hF.2.1, hF.2.2.2.2.2⟩)

theorem hn_le0 {x : Int} (hx : hn_R x) : 0 ≤ Int32.ofInt x ↔ 0 ≤ x := hn_le hn_R0 hx
theorem hn_gt0 {x : Int} (hx : hn_R x) : 0 < Int32.ofInt x ↔ 0 < x := hn_lt hn_R0 hx
theorem hn_ge0 {x : Int} (hx : hn_R x) : Int32.ofInt x ≤ 0 ↔ x ≤ 0 := hn_le hx hn_R0
theorem hn_bi {n : Int} (hn : -128 ≤ n ∧ n ≤ 127) : (Int8.ofInt n).toInt32 = Int32.ofInt n := by
  rw [← Int32.ofInt_int8ToInt, Int8.toInt_ofInt_of_le (by omega) (by omega)]
theorem hn_si {n : Int} (hn : -32768 ≤ n ∧ n ≤ 32767) : (Int16.ofInt n).toInt32 = Int32.ofInt n := by
  rw [← Int32.ofInt_int16ToInt, Int16.toInt_ofInt_of_le (by omega) (by omega)]
theorem hn_s_aload_n (hX : hn_X p R s m args meth c D base cI cS b sL xs mi d n0 s0 Mend) {pc : Nat} {ls : hn_Ls} {st : List hn_V} {M : hn_Mem} {k : Fin 4} (hd : decode (hn_c mi) pc = .ok (.aload_n k, 1)) (h : hn_lda ls k fun v => hn_G p l e R s m args below meth c D base cI cS b mi n0 s0 Q r Mend (hn_nx mi (pc + 1) ls (v :: st) M)) : hn_GW p l e R s m args below meth c D base cI cS b mi n0 s0 Q pc ls st M := by
  unfold hn_lda at h
  split at h
  · rename_i v e
    refine hn_pure h (fun h1 h2 _ => hn_oS.n (fun x q => by cases q) h1) ?_
    intro H locs cells slots a hF k
    rcases v with v | v
    · exact lv_aload_n (x := base + v) hX.1.1 hX.1.2.1 hd rfl (hF.2.2.1.2.2.2 _ _ e) k
    · exact lv_aload_n (x := b) hX.1.1 hX.1.2.1 hd rfl (hF.2.2.1.2.2.2 _ _ e) k
  · exact h.elim
theorem hn_s_iload_n (hX : hn_X p R s m args meth c D base cI cS b sL xs mi d n0 s0 Mend) {pc : Nat} {ls : hn_Ls} {st : List hn_V} {M : hn_Mem} {k : Fin 4} (hd : decode (hn_c mi) pc = .ok (.iload_n k, 1)) (h : hn_ld1 ls k fun v => hn_G p l e R s m args below meth c D base cI cS b mi n0 s0 Q r Mend (hn_nx mi (pc + 1) ls (v :: st) M)) : hn_GW p l e R s m args below meth c D base cI cS b mi n0 s0 Q pc ls st M := by
  unfold hn_ld1 at h
  split at h
  · rename_i v e
    refine hn_pure h (fun h1 h2 _ => hn_oS.i (h2 _ _ e) h1) ?_
    intro H locs cells slots a hF k
    exact lv_iload_n hX.1.1 hX.1.2.1 hd rfl (hF.2.2.1.2.2.2 _ _ e) k
  · exact h.elim
theorem hn_s_iload (hX : hn_X p R s m args meth c D base cI cS b sL xs mi d n0 s0 Mend) {pc : Nat} {ls : hn_Ls} {st : List hn_V} {M : hn_Mem} {k : Nat} (hd : decode (hn_c mi) pc = .ok (.iload k, 2)) (h : hn_ld1 ls k fun v => hn_G p l e R s m args below meth c D base cI cS b mi n0 s0 Q r Mend (hn_nx mi (pc + 2) ls (v :: st) M)) : hn_GW p l e R s m args below meth c D base cI cS b mi n0 s0 Q pc ls st M := by
  unfold hn_ld1 at h
  split at h
  · rename_i v e
    refine hn_pure h (fun h1 h2 _ => hn_oS.i (h2 _ _ e) h1) ?_
    intro H locs cells slots a hF k
    exact lv_iload hX.1.1 hX.1.2.1 hd (hF.2.2.1.2.2.2 _ _ e) k
  · exact h.elim
theorem hn_s_lload_n (hX : hn_X p R s m args meth c D base cI cS b sL xs mi d n0 s0 Mend) {pc : Nat} {ls : hn_Ls} {st : List hn_V} {M : hn_Mem} {k : Fin 4} (hd : decode (hn_c mi) pc = .ok (.lload_n k, 1)) (h : hn_ldl ls k fun v => hn_G p l e R s m args below meth c D base cI cS b mi n0 s0 Q r Mend (hn_nx mi (pc + 1) ls (v :: st) M)) : hn_GW p l e R s m args below meth c D base cI cS b mi n0 s0 Q pc ls st M := by
  unfold hn_ldl at h
  split at h
  · rename_i v e
    refine hn_pure h (fun h1 h2 _ => hn_oS.n (fun x q => by cases q) h1) ?_
    intro H locs cells slots a hF k
    exact lv_lload_n hX.1.1 hX.1.2.1 hd rfl (hF.2.2.1.2.2.2 _ _ e) k
  · exact h.elim
theorem hn_s_lload (hX : hn_X p R s m args meth c D base cI cS b sL xs mi d n0 s0 Mend) {pc : Nat} {ls : hn_Ls} {st : List hn_V} {M : hn_Mem} {k : Nat} (hd : decode (hn_c mi) pc = .ok (.lload k, 2)) (h : hn_ldl ls k fun v => hn_G p l e R s m args below meth c D base cI cS b mi n0 s0 Q r Mend (hn_nx mi (pc + 2) ls (v :: st) M)) : hn_GW p l e R s m args below meth c D base cI cS b mi n0 s0 Q pc ls st M := by
  unfold hn_ldl at h
  split at h
  · rename_i v e
    refine hn_pure h (fun h1 h2 _ => hn_oS.n (fun x q => by cases q) h1) ?_
    intro H locs cells slots a hF k
    exact lv_lload hX.1.1 hX.1.2.1 hd (hF.2.2.1.2.2.2 _ _ e) k
  · exact h.elim
theorem hn_s_istore_n (hX : hn_X p R s m args meth c D base cI cS b sL xs mi d n0 s0 Mend) {pc : Nat} {ls : hn_Ls} {st : List hn_V} {M : hn_Mem} {k : Fin 4} {x : Int} (hd : decode (hn_c mi) pc = .ok (.istore_n k, 1)) (h : cond (Nat.blt k ls.length) (hn_G p l e R s m args below meth c D base cI cS b mi n0 s0 Q r Mend (hn_nx mi (pc + 1) (hn_set ls k (.inl x)) st M)) False) : hn_GW p l e R s m args below meth c D base cI cS b mi n0 s0 Q pc ls (.inl x :: st) M := by
  cases hb : Nat.blt k ls.length with
  | false => rw [hb] at h; exact h.elim
  | true =>
    rw [hb] at h
    have hlt : (k : Nat) < ls.length := hn_bltT.mp hb
    intro h1 h2 H locs a hF
    rw [hF.2.2.1.2.2.1] at hlt
    refine lv_istore_n hX.1.1 hX.1.2.1 hd rfl (hn_lvHas hF.2.2.1) hlt rfl (fun a' ha' => ?_)
    exact (h rfl).2 h1 h2 H locs a' ⟨hF.1, hF.2.1, hn_lvSet (v := .inl x) hF.2.2.1 ha', hF.2.2.2.1.set (fun y q => by cases q; exact hF.2.2.2.2.1.h), hF.2.2.2.2.1.t, hF.2.2.2.2.2⟩
theorem hn_s_istore (hX : hn_X p R s m args meth c D base cI cS b sL xs mi d n0 s0 Mend) {pc : Nat} {ls : hn_Ls} {st : List hn_V} {M : hn_Mem} {k : Nat} {x : Int} (hd : decode (hn_c mi) pc = .ok (.istore k, 2)) (h : cond (Nat.blt k ls.length) (hn_G p l e R s m args below meth c D base cI cS b mi n0 s0 Q r Mend (hn_nx mi (pc + 2) (hn_set ls k (.inl x)) st M)) False) : hn_GW p l e R s m args below meth c D base cI cS b mi n0 s0 Q pc ls (.inl x :: st) M := by
  cases hb : Nat.blt k ls.length with
  | false => rw [hb] at h; exact h.elim
  | true =>
    rw [hb] at h
    have hlt : (k : Nat) < ls.length := hn_bltT.mp hb
    intro h1 h2 H locs a hF
    rw [hF.2.2.1.2.2.1] at hlt
    refine lv_istore hX.1.1 hX.1.2.1 hd (hn_lvHas hF.2.2.1) hlt rfl (fun a' ha' => ?_)
    exact (h rfl).2 h1 h2 H locs a' ⟨hF.1, hF.2.1, hn_lvSet (v := .inl x) hF.2.2.1 ha', hF.2.2.2.1.set (fun y q => by cases q; exact hF.2.2.2.2.1.h), hF.2.2.2.2.1.t, hF.2.2.2.2.2⟩
theorem hn_s_astore_n (hX : hn_X p R s m args meth c D base cI cS b sL xs mi d n0 s0 Mend) {pc : Nat} {ls : hn_Ls} {st : List hn_V} {M : hn_Mem} {k : Fin 4} {x : Nat} (hd : decode (hn_c mi) pc = .ok (.astore_n k, 1)) (h : cond (Nat.blt k ls.length) (hn_G p l e R s m args below meth c D base cI cS b mi n0 s0 Q r Mend (hn_nx mi (pc + 1) (hn_set ls k (.inr (.inr (.inl x)))) st M)) False) : hn_GW p l e R s m args below meth c D base cI cS b mi n0 s0 Q pc ls (.inr (.inr (.inl x)) :: st) M := by
  cases hb : Nat.blt k ls.length with
  | false => rw [hb] at h; exact h.elim
  | true =>
    rw [hb] at h
    have hlt : (k : Nat) < ls.length := hn_bltT.mp hb
    intro h1 h2 H locs a hF
    rw [hF.2.2.1.2.2.1] at hlt
    refine lv_astore_n hX.1.1 hX.1.2.1 hd rfl (hn_lvHas hF.2.2.1) hlt rfl (fun a' ha' => ?_)
    exact (h rfl).2 h1 h2 H locs a' ⟨hF.1, hF.2.1, hn_lvSet (v := .inr (.inr (.inl x))) hF.2.2.1 ha', hF.2.2.2.1.set (fun y q => by cases q), hF.2.2.2.2.1.t, hF.2.2.2.2.2⟩
theorem hn_s_lstore (hX : hn_X p R s m args meth c D base cI cS b sL xs mi d n0 s0 Mend) {pc : Nat} {ls : hn_Ls} {st : List hn_V} {M : hn_Mem} {k : Nat} {x : Int64} (hd : decode (hn_c mi) pc = .ok (.lstore k, 2)) (h : cond (Nat.blt (k + 1) ls.length) (hn_G p l e R s m args below meth c D base cI cS b mi n0 s0 Q r Mend (hn_nx mi (pc + 2) (hn_set2 ls k (.inr (.inl x))) st M)) False) : hn_GW p l e R s m args below meth c D base cI cS b mi n0 s0 Q pc ls (.inr (.inl x) :: st) M := by
  cases hb : Nat.blt (k + 1) ls.length with
  | false => rw [hb] at h; exact h.elim
  | true =>
    rw [hb] at h
    have hlt : (k : Nat) + 1 < ls.length := hn_bltT.mp hb
    intro h1 h2 H locs a hF
    rw [hF.2.2.1.2.2.1] at hlt
    refine lv_lstore hX.1.1 hX.1.2.1 hd (hn_lvHas hF.2.2.1) hlt rfl (fun a' ha' => ?_)
    exact (h rfl).2 h1 h2 H locs a' ⟨hF.1, hF.2.1, hn_lvSet2 (v := .inr (.inl x)) hF.2.2.1 ha', hF.2.2.2.1.set2, hF.2.2.2.2.1.t, hF.2.2.2.2.2⟩

theorem hn_s_lstore_n (hX : hn_X p R s m args meth c D base cI cS b sL xs mi d n0 s0 Mend) {pc : Nat} {ls : hn_Ls} {st : List hn_V} {M : hn_Mem} {k : Fin 4} {x : Int64} (hd : decode (hn_c mi) pc = .ok (.lstore_n k, 1)) (h : cond (Nat.blt (k + 1) ls.length) (hn_G p l e R s m args below meth c D base cI cS b mi n0 s0 Q r Mend (hn_nx mi (pc + 1) (hn_set2 ls k (.inr (.inl x))) st M)) False) : hn_GW p l e R s m args below meth c D base cI cS b mi n0 s0 Q pc ls (.inr (.inl x) :: st) M := by
  cases hb : Nat.blt (k + 1) ls.length with
  | false => rw [hb] at h; exact h.elim
  | true =>
    rw [hb] at h
    have hlt : (k : Nat) + 1 < ls.length := hn_bltT.mp hb
    intro h1 h2 H locs a hF
    rw [hF.2.2.1.2.2.1] at hlt
    refine lv_lstore_n hX.1.1 hX.1.2.1 hd rfl (hn_lvHas hF.2.2.1) hlt rfl (fun a' ha' => ?_)
    exact (h rfl).2 h1 h2 H locs a' ⟨hF.1, hF.2.1, hn_lvSet2 (v := .inr (.inl x)) hF.2.2.1 ha', hF.2.2.2.1.set2, hF.2.2.2.2.1.t, hF.2.2.2.2.2⟩
theorem hn_s_iinc (hX : hn_X p R s m args meth c D base cI cS b sL xs mi d n0 s0 Mend) {pc : Nat} {ls : hn_Ls} {st : List hn_V} {M : hn_Mem} {k : Nat} {n : Int} (hd : decode (hn_c mi) pc = .ok (.iinc k n, 3)) (h : match ls[k]? with
    | some (some (.inl x)) => hn_R (x + n) ∧ hn_G p l e R s m args below meth c D base cI cS b mi n0 s0 Q r Mend (hn_nx mi (pc + 3) (hn_set ls k (.inl (x + n))) st M)
    | _ => False) : hn_GW p l e R s m args below meth c D base cI cS b mi n0 s0 Q pc ls st M := by
  split at h
  · rename_i x ex
    intro h1 h2 H locs a hF
    have hlt : k < hn_ml mi := by rw [← hF.2.2.1.2.2.1]; exact (List.getElem?_eq_some_iff.mp ex).1
    obtain ⟨j, hj⟩ := List.getElem?_of_mem (hn_allOf (base := base) (b := b) ex)
    refine lv_iinc (v := Int32.ofInt (x + n)) hX.1.1 hX.1.2.1 hd (hn_lvHas hF.2.2.1) hj (Int32.ofInt_add x n).symm hlt rfl (fun a' ha' => ?_)
    exact (h.2 rfl).2 h1 h2 H locs a' ⟨hF.1, hF.2.1, hn_lvSet (v := .inl (x + n)) hF.2.2.1 ha', hF.2.2.2.1.set (fun y q => by cases q; exact h.1), hF.2.2.2.2.1, hF.2.2.2.2.2⟩
  · exact h.elim
theorem hn_s_iconst (hX : hn_X p R s m args meth c D base cI cS b sL xs mi d n0 s0 Mend) {pc : Nat} {ls : hn_Ls} {st : List hn_V} {M : hn_Mem} {n : Int} (hd : decode (hn_c mi) pc = .ok (.iconst n, 1)) (hn : -1 ≤ n ∧ n ≤ 5) (h : hn_G p l e R s m args below meth c D base cI cS b mi n0 s0 Q r Mend (hn_nx mi (pc + 1) ls (.inl n :: st) M)) : hn_GW p l e R s m args below meth c D base cI cS b mi n0 s0 Q pc ls st M :=
  hn_pure h (fun h1 _ _ => h1.i (by constructor <;> omega)) fun H locs cells slots a hF k => lv_iconst hX.1.1 hX.1.2.1 hd (rfl) k
theorem hn_s_bipush (hX : hn_X p R s m args meth c D base cI cS b sL xs mi d n0 s0 Mend) {pc : Nat} {ls : hn_Ls} {st : List hn_V} {M : hn_Mem} {n : Int} (hd : decode (hn_c mi) pc = .ok (.bipush n, 2)) (hn : -128 ≤ n ∧ n ≤ 127) (h : hn_G p l e R s m args below meth c D base cI cS b mi n0 s0 Q r Mend (hn_nx mi (pc + 2) ls (.inl n :: st) M)) : hn_GW p l e R s m args below meth c D base cI cS b mi n0 s0 Q pc ls st M :=
  hn_pure h (fun h1 _ _ => h1.i (by constructor <;> omega)) fun H locs cells slots a hF k => lv_bipush hX.1.1 hX.1.2.1 hd (hn_bi hn) k
theorem hn_s_sipush (hX : hn_X p R s m args meth c D base cI cS b sL xs mi d n0 s0 Mend) {pc : Nat} {ls : hn_Ls} {st : List hn_V} {M : hn_Mem} {n : Int} (hd : decode (hn_c mi) pc = .ok (.sipush n, 3)) (hn : -32768 ≤ n ∧ n ≤ 32767) (h : hn_G p l e R s m args below meth c D base cI cS b mi n0 s0 Q r Mend (hn_nx mi (pc + 3) ls (.inl n :: st) M)) : hn_GW p l e R s m args below meth c D base cI cS b mi n0 s0 Q pc ls st M :=
  hn_pure h (fun h1 _ _ => h1.i (by constructor <;> omega)) fun H locs cells slots a hF k => lv_sipush hX.1.1 hX.1.2.1 hd (hn_si hn) k
theorem hn_s_ldc (hX : hn_X p R s m args meth c D base cI cS b sL xs mi d n0 s0 Mend) {pc : Nat} {ls : hn_Ls} {st : List hn_V} {M : hn_Mem} {i : Nat} {v : Int} (hd : decode (hn_c mi) pc = .ok (.ldc i, 2)) (hw : lw_tbl[hn_pcst (hn_oc mi * 1024 + i)]? = some (.constant (hn_cn (hn_oc mi)) i (Int32.ofInt v))) (hv : hn_R v) (h : hn_G p l e R s m args below meth c D base cI cS b mi n0 s0 Q r Mend (hn_nx mi (pc + 2) ls (.inl v :: st) M)) : hn_GW p l e R s m args below meth c D base cI cS b mi n0 s0 Q pc ls st M :=
  hn_pure h (fun h1 _ _ => h1.i hv) fun H locs cells slots a hF k => lv_ldc hX.1.1 hX.1.2.1 hX.1.2.2.2 (hX.2.1 _ (hn_mem hw)) hd k
theorem hn_s_ldc_w (hX : hn_X p R s m args meth c D base cI cS b sL xs mi d n0 s0 Mend) {pc : Nat} {ls : hn_Ls} {st : List hn_V} {M : hn_Mem} {i : Nat} {v : Int} (hd : decode (hn_c mi) pc = .ok (.ldc_w i, 3)) (hw : lw_tbl[hn_pcst (hn_oc mi * 1024 + i)]? = some (.constant (hn_cn (hn_oc mi)) i (Int32.ofInt v))) (hv : hn_R v) (h : hn_G p l e R s m args below meth c D base cI cS b mi n0 s0 Q r Mend (hn_nx mi (pc + 3) ls (.inl v :: st) M)) : hn_GW p l e R s m args below meth c D base cI cS b mi n0 s0 Q pc ls st M :=
  hn_pure h (fun h1 _ _ => h1.i hv) fun H locs cells slots a hF k => lv_ldcw hX.1.1 hX.1.2.1 hX.1.2.2.2 (hX.2.1 _ (hn_mem hw)) hd k
theorem hn_s_ldc2_w (hX : hn_X p R s m args meth c D base cI cS b sL xs mi d n0 s0 Mend) {pc : Nat} {ls : hn_Ls} {st : List hn_V} {M : hn_Mem} {i : Nat} {v : Int64} (hd : decode (hn_c mi) pc = .ok (.ldc2_w i, 3)) (hw : lw_tbl[hn_pcl2 (hn_oc mi * 1024 + i)]? = some (.constantLong (hn_cn (hn_oc mi)) i v)) (h : hn_G p l e R s m args below meth c D base cI cS b mi n0 s0 Q r Mend (hn_nx mi (pc + 3) ls (.inr (.inl v) :: st) M)) : hn_GW p l e R s m args below meth c D base cI cS b mi n0 s0 Q pc ls st M :=
  hn_pure h (fun h1 _ _ => h1.n (fun x q => by cases q)) fun H locs cells slots a hF k => lv_ldc2 hX.1.1 hX.1.2.1 hX.1.2.2.2 (hX.2.1 _ (hn_mem hw)) hd k
theorem hn_s_iadd (hX : hn_X p R s m args meth c D base cI cS b sL xs mi d n0 s0 Mend) {pc : Nat} {ls : hn_Ls} {st : List hn_V} {M : hn_Mem} {x y : Int} (hd : decode (hn_c mi) pc = .ok (.iadd, 1)) (h : hn_R (x + y) ∧ hn_G p l e R s m args below meth c D base cI cS b mi n0 s0 Q r Mend (hn_nx mi (pc + 1) ls (.inl (x + y) :: st) M)) : hn_GW p l e R s m args below meth c D base cI cS b mi n0 s0 Q pc ls (.inl y :: .inl x :: st) M := by
  refine hn_pure h.2 (fun h1 _ _ => h1.t.t.i h.1) fun H locs cells slots a hF k => lv_iadd hX.1.1 hX.1.2.1 hd ?_
  rw [← Int32.ofInt_add x y]
  exact k
theorem hn_s_isub (hX : hn_X p R s m args meth c D base cI cS b sL xs mi d n0 s0 Mend) {pc : Nat} {ls : hn_Ls} {st : List hn_V} {M : hn_Mem} {x y : Int} (hd : decode (hn_c mi) pc = .ok (.isub, 1)) (h : hn_R (x - y) ∧ hn_G p l e R s m args below meth c D base cI cS b mi n0 s0 Q r Mend (hn_nx mi (pc + 1) ls (.inl (x - y) :: st) M)) : hn_GW p l e R s m args below meth c D base cI cS b mi n0 s0 Q pc ls (.inl y :: .inl x :: st) M := by
  refine hn_pure h.2 (fun h1 _ _ => h1.t.t.i h.1) fun H locs cells slots a hF k => lv_isub hX.1.1 hX.1.2.1 hd ?_
  rw [← Int32.ofInt_sub x y]
  exact k
theorem hn_s_imul (hX : hn_X p R s m args meth c D base cI cS b sL xs mi d n0 s0 Mend) {pc : Nat} {ls : hn_Ls} {st : List hn_V} {M : hn_Mem} {x y : Int} (hd : decode (hn_c mi) pc = .ok (.imul, 1)) (h : hn_R (x * y) ∧ hn_G p l e R s m args below meth c D base cI cS b mi n0 s0 Q r Mend (hn_nx mi (pc + 1) ls (.inl (x * y) :: st) M)) : hn_GW p l e R s m args below meth c D base cI cS b mi n0 s0 Q pc ls (.inl y :: .inl x :: st) M := by
  refine hn_pure h.2 (fun h1 _ _ => h1.t.t.i h.1) fun H locs cells slots a hF k => lv_imul hX.1.1 hX.1.2.1 hd ?_
  rw [← Int32.ofInt_mul x y]
  exact k
theorem hn_rem {x y : Int} (hx : hn_R x) (hy : hn_R y) (h : 0 ≤ x ∧ 0 < y) : Int32.ofInt x - Int32.ofInt x / Int32.ofInt y * Int32.ofInt y = Int32.ofInt (x % y) := by
  have h1 := Int.emod_nonneg x (show y ≠ 0 by omega)
  have h2 := Int.emod_lt_of_pos x h.2
  rw [← Int32.toInt_inj, rem_toInt, hn_r1 hx, hn_r1 hy, hn_r1 (by constructor <;> omega), Int.tmod_eq_emod_of_nonneg h.1]
theorem hn_s_irem (hX : hn_X p R s m args meth c D base cI cS b sL xs mi d n0 s0 Mend) {pc : Nat} {ls : hn_Ls} {st : List hn_V} {M : hn_Mem} {x y : Int} (hd : decode (hn_c mi) pc = .ok (.irem, 1)) (h : (0 ≤ x ∧ 0 < y) ∧ hn_G p l e R s m args below meth c D base cI cS b mi n0 s0 Q r Mend (hn_nx mi (pc + 1) ls (.inl (x % y) :: st) M)) : hn_GW p l e R s m args below meth c D base cI cS b mi n0 s0 Q pc ls (.inl y :: .inl x :: st) M := by
  refine hn_pure h.2 (fun h1 _ _ => h1.t.t.i ?_) fun H locs cells slots a hF k => lv_irem hX.1.1 hX.1.2.1 hd ?_ ?_
  · have h2 := Int.emod_nonneg x (show y ≠ 0 by omega)
    have h3 := Int.emod_lt_of_pos x h.1.2
    have h4 := h1.h
    constructor <;> omega
  · intro q
    have := (hn_eq0 hF.2.2.2.2.1.h).mp q
    omega
  · rw [hn_rem hF.2.2.2.2.1.t.h hF.2.2.2.2.1.h h.1]
    exact k
theorem hn_s_ineg (hX : hn_X p R s m args meth c D base cI cS b sL xs mi d n0 s0 Mend) {pc : Nat} {ls : hn_Ls} {st : List hn_V} {M : hn_Mem} {x : Int} (hd : decode (hn_c mi) pc = .ok (.ineg, 1)) (h : hn_R (-x) ∧ hn_G p l e R s m args below meth c D base cI cS b mi n0 s0 Q r Mend (hn_nx mi (pc + 1) ls (.inl (-x) :: st) M)) : hn_GW p l e R s m args below meth c D base cI cS b mi n0 s0 Q pc ls (.inl x :: st) M := by
  refine hn_pure h.2 (fun h1 _ _ => h1.t.i h.1) fun H locs cells slots a hF k => lv_ineg hX.1.1 hX.1.2.1 hd ?_
  rw [← Int32.ofInt_neg x]
  exact k
theorem hn_s_iand (hX : hn_X p R s m args meth c D base cI cS b sL xs mi d n0 s0 Mend) {pc : Nat} {ls : hn_Ls} {st : List hn_V} {M : hn_Mem} {x y : Int} (hd : decode (hn_c mi) pc = .ok (.iand, 1)) (h : hn_G p l e R s m args below meth c D base cI cS b mi n0 s0 Q r Mend (hn_nx mi (pc + 1) ls (.inl (hn_and x y) :: st) M)) : hn_GW p l e R s m args below meth c D base cI cS b mi n0 s0 Q pc ls (.inl y :: .inl x :: st) M := by
  refine hn_pure h (fun h1 _ _ => h1.t.t.i (hn_r2 _)) fun H locs cells slots a hF k => lv_iand hX.1.1 hX.1.2.1 hd ?_
  have e := Int32.ofInt_toInt (Int32.ofInt x &&& Int32.ofInt y)
  rw [← e]
  exact k
theorem hn_s_ior (hX : hn_X p R s m args meth c D base cI cS b sL xs mi d n0 s0 Mend) {pc : Nat} {ls : hn_Ls} {st : List hn_V} {M : hn_Mem} {x y : Int} (hd : decode (hn_c mi) pc = .ok (.ior, 1)) (h : hn_G p l e R s m args below meth c D base cI cS b mi n0 s0 Q r Mend (hn_nx mi (pc + 1) ls (.inl (hn_or x y) :: st) M)) : hn_GW p l e R s m args below meth c D base cI cS b mi n0 s0 Q pc ls (.inl y :: .inl x :: st) M := by
  refine hn_pure h (fun h1 _ _ => h1.t.t.i (hn_r2 _)) fun H locs cells slots a hF k => lv_ior hX.1.1 hX.1.2.1 hd ?_
  have e := Int32.ofInt_toInt (Int32.ofInt x ||| Int32.ofInt y)
  rw [← e]
  exact k
theorem hn_s_ixor (hX : hn_X p R s m args meth c D base cI cS b sL xs mi d n0 s0 Mend) {pc : Nat} {ls : hn_Ls} {st : List hn_V} {M : hn_Mem} {x y : Int} (hd : decode (hn_c mi) pc = .ok (.ixor, 1)) (h : hn_G p l e R s m args below meth c D base cI cS b mi n0 s0 Q r Mend (hn_nx mi (pc + 1) ls (.inl (hn_xor x y) :: st) M)) : hn_GW p l e R s m args below meth c D base cI cS b mi n0 s0 Q pc ls (.inl y :: .inl x :: st) M := by
  refine hn_pure h (fun h1 _ _ => h1.t.t.i (hn_r2 _)) fun H locs cells slots a hF k => lv_ixor hX.1.1 hX.1.2.1 hd ?_
  have e := Int32.ofInt_toInt (Int32.ofInt x ^^^ Int32.ofInt y)
  rw [← e]
  exact k
theorem hn_s_ishl (hX : hn_X p R s m args meth c D base cI cS b sL xs mi d n0 s0 Mend) {pc : Nat} {ls : hn_Ls} {st : List hn_V} {M : hn_Mem} {x y : Int} (hd : decode (hn_c mi) pc = .ok (.ishl, 1)) (h : hn_G p l e R s m args below meth c D base cI cS b mi n0 s0 Q r Mend (hn_nx mi (pc + 1) ls (.inl (hn_shl x y) :: st) M)) : hn_GW p l e R s m args below meth c D base cI cS b mi n0 s0 Q pc ls (.inl y :: .inl x :: st) M := by
  refine hn_pure h (fun h1 _ _ => h1.t.t.i (hn_r2 _)) fun H locs cells slots a hF k => lv_ishl hX.1.1 hX.1.2.1 hd ?_
  have e := Int32.ofInt_toInt (Int32.ofInt x <<< (Int32.ofInt y &&& 31))
  rw [← e]
  exact k
theorem hn_s_ishr (hX : hn_X p R s m args meth c D base cI cS b sL xs mi d n0 s0 Mend) {pc : Nat} {ls : hn_Ls} {st : List hn_V} {M : hn_Mem} {x y : Int} (hd : decode (hn_c mi) pc = .ok (.ishr, 1)) (h : hn_G p l e R s m args below meth c D base cI cS b mi n0 s0 Q r Mend (hn_nx mi (pc + 1) ls (.inl (hn_shr x y) :: st) M)) : hn_GW p l e R s m args below meth c D base cI cS b mi n0 s0 Q pc ls (.inl y :: .inl x :: st) M := by
  refine hn_pure h (fun h1 _ _ => h1.t.t.i (hn_r2 _)) fun H locs cells slots a hF k => lv_ishr hX.1.1 hX.1.2.1 hd ?_
  have e := Int32.ofInt_toInt (Int32.ofInt x >>> (Int32.ofInt y &&& 31))
  rw [← e]
  exact k
theorem hn_s_iushr (hX : hn_X p R s m args meth c D base cI cS b sL xs mi d n0 s0 Mend) {pc : Nat} {ls : hn_Ls} {st : List hn_V} {M : hn_Mem} {x y : Int} (hd : decode (hn_c mi) pc = .ok (.iushr, 1)) (h : hn_G p l e R s m args below meth c D base cI cS b mi n0 s0 Q r Mend (hn_nx mi (pc + 1) ls (.inl (hn_ushr x y) :: st) M)) : hn_GW p l e R s m args below meth c D base cI cS b mi n0 s0 Q pc ls (.inl y :: .inl x :: st) M :=
  hn_pure h (fun h1 _ _ => h1.t.t.i (hn_r2 _)) fun H locs cells slots a hF k => lv_iushr hX.1.1 hX.1.2.1 hd (Int32.ofInt_toInt _).symm k
theorem hn_s_i2l (hX : hn_X p R s m args meth c D base cI cS b sL xs mi d n0 s0 Mend) {pc : Nat} {ls : hn_Ls} {st : List hn_V} {M : hn_Mem} {x : Int} (hd : decode (hn_c mi) pc = .ok (.i2l, 1)) (h : hn_G p l e R s m args below meth c D base cI cS b mi n0 s0 Q r Mend (hn_nx mi (pc + 1) ls (.inr (.inl (Int64.ofInt x)) :: st) M)) : hn_GW p l e R s m args below meth c D base cI cS b mi n0 s0 Q pc ls (.inl x :: st) M :=
  hn_pure h (fun h1 _ _ => h1.t.n (fun x q => by cases q)) fun H locs cells slots a hF k => lv_i2l hX.1.1 hX.1.2.1 hd (hn_long hF.2.2.2.2.1.h) k
theorem hn_s_ladd (hX : hn_X p R s m args meth c D base cI cS b sL xs mi d n0 s0 Mend) {pc : Nat} {ls : hn_Ls} {st : List hn_V} {M : hn_Mem} {x y : Int64} (hd : decode (hn_c mi) pc = .ok (.ladd, 1)) (h : hn_G p l e R s m args below meth c D base cI cS b mi n0 s0 Q r Mend (hn_nx mi (pc + 1) ls (.inr (.inl (x + y)) :: st) M)) : hn_GW p l e R s m args below meth c D base cI cS b mi n0 s0 Q pc ls (.inr (.inl y) :: .inr (.inl x) :: st) M :=
  hn_pure h (fun h1 _ _ => h1.t.t.n (fun x q => by cases q)) fun H locs cells slots a hF k => lv_ladd hX.1.1 hX.1.2.1 hd k
theorem hn_s_lmul (hX : hn_X p R s m args meth c D base cI cS b sL xs mi d n0 s0 Mend) {pc : Nat} {ls : hn_Ls} {st : List hn_V} {M : hn_Mem} {x y : Int64} (hd : decode (hn_c mi) pc = .ok (.lmul, 1)) (h : hn_G p l e R s m args below meth c D base cI cS b mi n0 s0 Q r Mend (hn_nx mi (pc + 1) ls (.inr (.inl (x * y)) :: st) M)) : hn_GW p l e R s m args below meth c D base cI cS b mi n0 s0 Q pc ls (.inr (.inl y) :: .inr (.inl x) :: st) M :=
  hn_pure h (fun h1 _ _ => h1.t.t.n (fun x q => by cases q)) fun H locs cells slots a hF k => lv_lmul hX.1.1 hX.1.2.1 hd k
theorem hn_s_lcmp (hX : hn_X p R s m args meth c D base cI cS b sL xs mi d n0 s0 Mend) {pc : Nat} {ls : hn_Ls} {st : List hn_V} {M : hn_Mem} {x y : Int64} (hd : decode (hn_c mi) pc = .ok (.lcmp, 1)) (h : hn_G p l e R s m args below meth c D base cI cS b mi n0 s0 Q r Mend (hn_nx mi (pc + 1) ls (.inl (hn_lcmp x y) :: st) M)) : hn_GW p l e R s m args below meth c D base cI cS b mi n0 s0 Q pc ls (.inr (.inl y) :: .inr (.inl x) :: st) M := by
  refine hn_pure h (fun h1 _ _ => h1.t.t.i (hn_r2 _)) fun H locs cells slots a hF k => W.lcmp hX.1.1 hX.1.2.1 hd ?_
  rw [← Int32.ofInt_toInt (lg_cmp x y)]
  exact k
theorem hn_s_dup (hX : hn_X p R s m args meth c D base cI cS b sL xs mi d n0 s0 Mend) {pc : Nat} {ls : hn_Ls} {st : List hn_V} {M : hn_Mem} {v : hn_V} (hd : decode (hn_c mi) pc = .ok (.dup, 1)) (h : cond (hn_cat1 v) (hn_G p l e R s m args below meth c D base cI cS b mi n0 s0 Q r Mend (hn_nx mi (pc + 1) ls (v :: v :: st) M)) False) : hn_GW p l e R s m args below meth c D base cI cS b mi n0 s0 Q pc ls (v :: st) M := by
  cases hc : hn_cat1 v with
  | false => rw [hc] at h; exact h.elim
  | true =>
    rw [hc] at h
    exact hn_pure (r := r) h (fun h1 _ _ => hn_oS.c h1 h1) fun H locs cells slots a hF k => lv_dup hX.1.1 hX.1.2.1 hd (hn_cv1 hc) k
theorem hn_s_pop (hX : hn_X p R s m args meth c D base cI cS b sL xs mi d n0 s0 Mend) {pc : Nat} {ls : hn_Ls} {st : List hn_V} {M : hn_Mem} {v : hn_V} (hd : decode (hn_c mi) pc = .ok (.pop, 1)) (h : cond (hn_cat1 v) (hn_G p l e R s m args below meth c D base cI cS b mi n0 s0 Q r Mend (hn_nx mi (pc + 1) ls st M)) False) : hn_GW p l e R s m args below meth c D base cI cS b mi n0 s0 Q pc ls (v :: st) M := by
  cases hc : hn_cat1 v with
  | false => rw [hc] at h; exact h.elim
  | true =>
    rw [hc] at h
    exact hn_pure (r := r) h (fun h1 _ _ => h1.t) fun H locs cells slots a hF k => lv_pop hX.1.1 hX.1.2.1 hd (hn_cv1 hc) k
theorem hn_s_dup_x1 (hX : hn_X p R s m args meth c D base cI cS b sL xs mi d n0 s0 Mend) {pc : Nat} {ls : hn_Ls} {st : List hn_V} {M : hn_Mem} {v w : hn_V} (hd : decode (hn_c mi) pc = .ok (.dup_x1, 1)) (h : cond (hn_cat1 v && hn_cat1 w) (hn_G p l e R s m args below meth c D base cI cS b mi n0 s0 Q r Mend (hn_nx mi (pc + 1) ls (v :: w :: v :: st) M)) False) : hn_GW p l e R s m args below meth c D base cI cS b mi n0 s0 Q pc ls (v :: w :: st) M := by
  cases hc : hn_cat1 v with
  | false => rw [hc] at h; exact h.elim
  | true =>
    cases hc2 : hn_cat1 w with
    | false => rw [hc, hc2] at h; exact h.elim
    | true =>
      rw [hc, hc2] at h
      exact hn_pure (r := r) h (fun h1 _ _ => h1.m (fun u hu => by
        simp only [List.mem_cons] at hu ⊢
        rcases hu with q | q | q | q <;> simp [q])) fun H locs cells slots a hF k => lv_dup_x1 hX.1.1 hX.1.2.1 hd (hn_cv1 hc) (hn_cv1 hc2) k
theorem hn_s_dup2 (hX : hn_X p R s m args meth c D base cI cS b sL xs mi d n0 s0 Mend) {pc : Nat} {ls : hn_Ls} {st : List hn_V} {M : hn_Mem} {v w : hn_V} (hd : decode (hn_c mi) pc = .ok (.dup2, 1)) (h : cond (hn_cat1 v && hn_cat1 w) (hn_G p l e R s m args below meth c D base cI cS b mi n0 s0 Q r Mend (hn_nx mi (pc + 1) ls (v :: w :: v :: w :: st) M)) False) : hn_GW p l e R s m args below meth c D base cI cS b mi n0 s0 Q pc ls (v :: w :: st) M := by
  cases hc : hn_cat1 v with
  | false => rw [hc] at h; exact h.elim
  | true =>
    cases hc2 : hn_cat1 w with
    | false => rw [hc, hc2] at h; exact h.elim
    | true =>
      rw [hc, hc2] at h
      exact hn_pure (r := r) h (fun h1 _ _ => h1.m (fun u hu => by
        simp only [List.mem_cons] at hu ⊢
        rcases hu with q | q | q | q | q <;> simp [q])) fun H locs cells slots a hF k => lv_dup2_11 hX.1.1 hX.1.2.1 hd (hn_cv1 hc) (hn_cv1 hc2) k
theorem hn_tgtOf {pc : Nat} {off : Int} (h : hn_pos pc off = true) : (pc : Int) + off = ((hn_tgt pc off : Nat) : Int) := by
  have h2 : 0 ≤ (pc : Int) + off := by simpa [hn_pos] using h
  show _ = (((pc : Int) + off).toNat : Int)
  omega
theorem hn_s_goto (hX : hn_X p R s m args meth c D base cI cS b sL xs mi d n0 s0 Mend) {pc : Nat} {ls : hn_Ls} {st : List hn_V} {M : hn_Mem} {off : Int} (hd : decode (hn_c mi) pc = .ok (.goto off, 3)) (hp : hn_pos pc off = true) (h : hn_G p l e R s m args below meth c D base cI cS b mi n0 s0 Q r Mend (hn_nx mi (hn_tgt pc off) ls st M)) : hn_GW p l e R s m args below meth c D base cI cS b mi n0 s0 Q pc ls st M :=
  hn_pure h (fun h1 _ _ => h1) fun H locs cells slots a hF k => lv_goto hX.1.1 hX.1.2.1 hd (hn_tgtOf hp) k
theorem hn_s_ifeq (hX : hn_X p R s m args meth c D base cI cS b sL xs mi d n0 s0 Mend) {pc : Nat} {ls : hn_Ls} {st : List hn_V} {M : hn_Mem} {x : Int} {off : Int} (hd : decode (hn_c mi) pc = .ok (.ifCond .eq off, 3)) (hp : hn_pos pc off = true) (h : hn_br (x = 0) (hn_G p l e R s m args below meth c D base cI cS b mi n0 s0 Q r Mend (hn_nx mi (hn_tgt pc off) ls st M)) (hn_G p l e R s m args below meth c D base cI cS b mi n0 s0 Q r Mend (hn_nx mi (pc + 3) ls st M))) : hn_GW p l e R s m args below meth c D base cI cS b mi n0 s0 Q pc ls (.inl x :: st) M := by
  intro h1 h2 H locs a hF
  refine lv_if_eq hX.1.1 hX.1.2.1 hd (hn_tgtOf hp) (fun q => ?_) (fun q => ?_)
  · rw [hn_eq0 hF.2.2.2.2.1.h] at q
    exact (((h.1 (by omega) rfl).2 h1 h2 H locs a ⟨hF.1, hF.2.1, hF.2.2.1, hF.2.2.2.1, hF.2.2.2.2.1.t, hF.2.2.2.2.2⟩))
  · rw [hn_eq0 hF.2.2.2.2.1.h] at q
    exact (((h.2 (by omega) rfl).2 h1 h2 H locs a ⟨hF.1, hF.2.1, hF.2.2.1, hF.2.2.2.1, hF.2.2.2.2.1.t, hF.2.2.2.2.2⟩))
theorem hn_s_ifne (hX : hn_X p R s m args meth c D base cI cS b sL xs mi d n0 s0 Mend) {pc : Nat} {ls : hn_Ls} {st : List hn_V} {M : hn_Mem} {x : Int} {off : Int} (hd : decode (hn_c mi) pc = .ok (.ifCond .ne off, 3)) (hp : hn_pos pc off = true) (h : hn_br (x = 0) (hn_G p l e R s m args below meth c D base cI cS b mi n0 s0 Q r Mend (hn_nx mi (pc + 3) ls st M)) (hn_G p l e R s m args below meth c D base cI cS b mi n0 s0 Q r Mend (hn_nx mi (hn_tgt pc off) ls st M))) : hn_GW p l e R s m args below meth c D base cI cS b mi n0 s0 Q pc ls (.inl x :: st) M := by
  intro h1 h2 H locs a hF
  refine lv_if_ne hX.1.1 hX.1.2.1 hd (hn_tgtOf hp) (fun q => ?_) (fun q => ?_)
  · rw [hn_eq0 hF.2.2.2.2.1.h] at q
    exact (((h.2 (by omega) rfl).2 h1 h2 H locs a ⟨hF.1, hF.2.1, hF.2.2.1, hF.2.2.2.1, hF.2.2.2.2.1.t, hF.2.2.2.2.2⟩))
  · rw [hn_eq0 hF.2.2.2.2.1.h] at q
    exact (((h.1 (by omega) rfl).2 h1 h2 H locs a ⟨hF.1, hF.2.1, hF.2.2.1, hF.2.2.2.1, hF.2.2.2.2.1.t, hF.2.2.2.2.2⟩))
theorem hn_s_iflt (hX : hn_X p R s m args meth c D base cI cS b sL xs mi d n0 s0 Mend) {pc : Nat} {ls : hn_Ls} {st : List hn_V} {M : hn_Mem} {x : Int} {off : Int} (hd : decode (hn_c mi) pc = .ok (.ifCond .lt off, 3)) (hp : hn_pos pc off = true) (h : hn_br (x < 0) (hn_G p l e R s m args below meth c D base cI cS b mi n0 s0 Q r Mend (hn_nx mi (hn_tgt pc off) ls st M)) (hn_G p l e R s m args below meth c D base cI cS b mi n0 s0 Q r Mend (hn_nx mi (pc + 3) ls st M))) : hn_GW p l e R s m args below meth c D base cI cS b mi n0 s0 Q pc ls (.inl x :: st) M := by
  intro h1 h2 H locs a hF
  refine lv_if_lt hX.1.1 hX.1.2.1 hd (hn_tgtOf hp) (fun q => ?_) (fun q => ?_)
  · rw [hn_lt0 hF.2.2.2.2.1.h] at q
    exact (((h.1 (by omega) rfl).2 h1 h2 H locs a ⟨hF.1, hF.2.1, hF.2.2.1, hF.2.2.2.1, hF.2.2.2.2.1.t, hF.2.2.2.2.2⟩))
  · rw [hn_lt0 hF.2.2.2.2.1.h] at q
    exact (((h.2 (by omega) rfl).2 h1 h2 H locs a ⟨hF.1, hF.2.1, hF.2.2.1, hF.2.2.2.1, hF.2.2.2.2.1.t, hF.2.2.2.2.2⟩))
theorem hn_s_ifge (hX : hn_X p R s m args meth c D base cI cS b sL xs mi d n0 s0 Mend) {pc : Nat} {ls : hn_Ls} {st : List hn_V} {M : hn_Mem} {x : Int} {off : Int} (hd : decode (hn_c mi) pc = .ok (.ifCond .ge off, 3)) (hp : hn_pos pc off = true) (h : hn_br (x < 0) (hn_G p l e R s m args below meth c D base cI cS b mi n0 s0 Q r Mend (hn_nx mi (pc + 3) ls st M)) (hn_G p l e R s m args below meth c D base cI cS b mi n0 s0 Q r Mend (hn_nx mi (hn_tgt pc off) ls st M))) : hn_GW p l e R s m args below meth c D base cI cS b mi n0 s0 Q pc ls (.inl x :: st) M := by
  intro h1 h2 H locs a hF
  refine lv_if_ge hX.1.1 hX.1.2.1 hd (hn_tgtOf hp) (fun q => ?_) (fun q => ?_)
  · rw [hn_le0 hF.2.2.2.2.1.h] at q
    exact (((h.2 (by omega) rfl).2 h1 h2 H locs a ⟨hF.1, hF.2.1, hF.2.2.1, hF.2.2.2.1, hF.2.2.2.2.1.t, hF.2.2.2.2.2⟩))
  · rw [hn_le0 hF.2.2.2.2.1.h] at q
    exact (((h.1 (by omega) rfl).2 h1 h2 H locs a ⟨hF.1, hF.2.1, hF.2.2.1, hF.2.2.2.1, hF.2.2.2.2.1.t, hF.2.2.2.2.2⟩))
theorem hn_s_ifgt (hX : hn_X p R s m args meth c D base cI cS b sL xs mi d n0 s0 Mend) {pc : Nat} {ls : hn_Ls} {st : List hn_V} {M : hn_Mem} {x : Int} {off : Int} (hd : decode (hn_c mi) pc = .ok (.ifCond .gt off, 3)) (hp : hn_pos pc off = true) (h : hn_br (0 < x) (hn_G p l e R s m args below meth c D base cI cS b mi n0 s0 Q r Mend (hn_nx mi (hn_tgt pc off) ls st M)) (hn_G p l e R s m args below meth c D base cI cS b mi n0 s0 Q r Mend (hn_nx mi (pc + 3) ls st M))) : hn_GW p l e R s m args below meth c D base cI cS b mi n0 s0 Q pc ls (.inl x :: st) M := by
  intro h1 h2 H locs a hF
  refine lv_if_gt hX.1.1 hX.1.2.1 hd (hn_tgtOf hp) (fun q => ?_) (fun q => ?_)
  · rw [hn_gt0 hF.2.2.2.2.1.h] at q
    exact (((h.1 (by omega) rfl).2 h1 h2 H locs a ⟨hF.1, hF.2.1, hF.2.2.1, hF.2.2.2.1, hF.2.2.2.2.1.t, hF.2.2.2.2.2⟩))
  · rw [hn_gt0 hF.2.2.2.2.1.h] at q
    exact (((h.2 (by omega) rfl).2 h1 h2 H locs a ⟨hF.1, hF.2.1, hF.2.2.1, hF.2.2.2.1, hF.2.2.2.2.1.t, hF.2.2.2.2.2⟩))
theorem hn_s_ifle (hX : hn_X p R s m args meth c D base cI cS b sL xs mi d n0 s0 Mend) {pc : Nat} {ls : hn_Ls} {st : List hn_V} {M : hn_Mem} {x : Int} {off : Int} (hd : decode (hn_c mi) pc = .ok (.ifCond .le off, 3)) (hp : hn_pos pc off = true) (h : hn_br (0 < x) (hn_G p l e R s m args below meth c D base cI cS b mi n0 s0 Q r Mend (hn_nx mi (pc + 3) ls st M)) (hn_G p l e R s m args below meth c D base cI cS b mi n0 s0 Q r Mend (hn_nx mi (hn_tgt pc off) ls st M))) : hn_GW p l e R s m args below meth c D base cI cS b mi n0 s0 Q pc ls (.inl x :: st) M := by
  intro h1 h2 H locs a hF
  refine lv_if_le hX.1.1 hX.1.2.1 hd (hn_tgtOf hp) (fun q => ?_) (fun q => ?_)
  · rw [hn_ge0 hF.2.2.2.2.1.h] at q
    exact (((h.2 (by omega) rfl).2 h1 h2 H locs a ⟨hF.1, hF.2.1, hF.2.2.1, hF.2.2.2.1, hF.2.2.2.2.1.t, hF.2.2.2.2.2⟩))
  · rw [hn_ge0 hF.2.2.2.2.1.h] at q
    exact (((h.1 (by omega) rfl).2 h1 h2 H locs a ⟨hF.1, hF.2.1, hF.2.2.1, hF.2.2.2.1, hF.2.2.2.2.1.t, hF.2.2.2.2.2⟩))
theorem hn_s_cmpeq (hX : hn_X p R s m args meth c D base cI cS b sL xs mi d n0 s0 Mend) {pc : Nat} {ls : hn_Ls} {st : List hn_V} {M : hn_Mem} {x y : Int} {off : Int} (hd : decode (hn_c mi) pc = .ok (.if_icmp .eq off, 3)) (hp : hn_pos pc off = true) (h : hn_br (x = y) (hn_G p l e R s m args below meth c D base cI cS b mi n0 s0 Q r Mend (hn_nx mi (hn_tgt pc off) ls st M)) (hn_G p l e R s m args below meth c D base cI cS b mi n0 s0 Q r Mend (hn_nx mi (pc + 3) ls st M))) : hn_GW p l e R s m args below meth c D base cI cS b mi n0 s0 Q pc ls (.inl y :: .inl x :: st) M := by
  intro h1 h2 H locs a hF
  refine lv_icmp_eq hX.1.1 hX.1.2.1 hd (hn_tgtOf hp) (fun q => ?_) (fun q => ?_)
  · rw [hn_eq hF.2.2.2.2.1.t.h hF.2.2.2.2.1.h] at q
    exact (((h.1 (by omega) rfl).2 h1 h2 H locs a ⟨hF.1, hF.2.1, hF.2.2.1, hF.2.2.2.1, hF.2.2.2.2.1.t.t, hF.2.2.2.2.2⟩))
  · rw [hn_eq hF.2.2.2.2.1.t.h hF.2.2.2.2.1.h] at q
    exact (((h.2 (by omega) rfl).2 h1 h2 H locs a ⟨hF.1, hF.2.1, hF.2.2.1, hF.2.2.2.1, hF.2.2.2.2.1.t.t, hF.2.2.2.2.2⟩))
theorem hn_s_cmpne (hX : hn_X p R s m args meth c D base cI cS b sL xs mi d n0 s0 Mend) {pc : Nat} {ls : hn_Ls} {st : List hn_V} {M : hn_Mem} {x y : Int} {off : Int} (hd : decode (hn_c mi) pc = .ok (.if_icmp .ne off, 3)) (hp : hn_pos pc off = true) (h : hn_br (x = y) (hn_G p l e R s m args below meth c D base cI cS b mi n0 s0 Q r Mend (hn_nx mi (pc + 3) ls st M)) (hn_G p l e R s m args below meth c D base cI cS b mi n0 s0 Q r Mend (hn_nx mi (hn_tgt pc off) ls st M))) : hn_GW p l e R s m args below meth c D base cI cS b mi n0 s0 Q pc ls (.inl y :: .inl x :: st) M := by
  intro h1 h2 H locs a hF
  refine lv_icmp_ne hX.1.1 hX.1.2.1 hd (hn_tgtOf hp) (fun q => ?_) (fun q => ?_)
  · rw [hn_eq hF.2.2.2.2.1.t.h hF.2.2.2.2.1.h] at q
    exact (((h.2 (by omega) rfl).2 h1 h2 H locs a ⟨hF.1, hF.2.1, hF.2.2.1, hF.2.2.2.1, hF.2.2.2.2.1.t.t, hF.2.2.2.2.2⟩))
  · rw [hn_eq hF.2.2.2.2.1.t.h hF.2.2.2.2.1.h] at q
    exact (((h.1 (by omega) rfl).2 h1 h2 H locs a ⟨hF.1, hF.2.1, hF.2.2.1, hF.2.2.2.1, hF.2.2.2.2.1.t.t, hF.2.2.2.2.2⟩))
theorem hn_s_cmplt (hX : hn_X p R s m args meth c D base cI cS b sL xs mi d n0 s0 Mend) {pc : Nat} {ls : hn_Ls} {st : List hn_V} {M : hn_Mem} {x y : Int} {off : Int} (hd : decode (hn_c mi) pc = .ok (.if_icmp .lt off, 3)) (hp : hn_pos pc off = true) (h : hn_br (x < y) (hn_G p l e R s m args below meth c D base cI cS b mi n0 s0 Q r Mend (hn_nx mi (hn_tgt pc off) ls st M)) (hn_G p l e R s m args below meth c D base cI cS b mi n0 s0 Q r Mend (hn_nx mi (pc + 3) ls st M))) : hn_GW p l e R s m args below meth c D base cI cS b mi n0 s0 Q pc ls (.inl y :: .inl x :: st) M := by
  intro h1 h2 H locs a hF
  refine lv_icmp_lt hX.1.1 hX.1.2.1 hd (hn_tgtOf hp) (fun q => ?_) (fun q => ?_)
  · rw [hn_lt hF.2.2.2.2.1.t.h hF.2.2.2.2.1.h] at q
    exact (((h.1 (by omega) rfl).2 h1 h2 H locs a ⟨hF.1, hF.2.1, hF.2.2.1, hF.2.2.2.1, hF.2.2.2.2.1.t.t, hF.2.2.2.2.2⟩))
  · rw [hn_lt hF.2.2.2.2.1.t.h hF.2.2.2.2.1.h] at q
    exact (((h.2 (by omega) rfl).2 h1 h2 H locs a ⟨hF.1, hF.2.1, hF.2.2.1, hF.2.2.2.1, hF.2.2.2.2.1.t.t, hF.2.2.2.2.2⟩))
theorem hn_s_cmpge (hX : hn_X p R s m args meth c D base cI cS b sL xs mi d n0 s0 Mend) {pc : Nat} {ls : hn_Ls} {st : List hn_V} {M : hn_Mem} {x y : Int} {off : Int} (hd : decode (hn_c mi) pc = .ok (.if_icmp .ge off, 3)) (hp : hn_pos pc off = true) (h : hn_br (x < y) (hn_G p l e R s m args below meth c D base cI cS b mi n0 s0 Q r Mend (hn_nx mi (pc + 3) ls st M)) (hn_G p l e R s m args below meth c D base cI cS b mi n0 s0 Q r Mend (hn_nx mi (hn_tgt pc off) ls st M))) : hn_GW p l e R s m args below meth c D base cI cS b mi n0 s0 Q pc ls (.inl y :: .inl x :: st) M := by
  intro h1 h2 H locs a hF
  refine lv_icmp_ge hX.1.1 hX.1.2.1 hd (hn_tgtOf hp) (fun q => ?_) (fun q => ?_)
  · rw [hn_le hF.2.2.2.2.1.h hF.2.2.2.2.1.t.h] at q
    exact (((h.2 (by omega) rfl).2 h1 h2 H locs a ⟨hF.1, hF.2.1, hF.2.2.1, hF.2.2.2.1, hF.2.2.2.2.1.t.t, hF.2.2.2.2.2⟩))
  · rw [hn_le hF.2.2.2.2.1.h hF.2.2.2.2.1.t.h] at q
    exact (((h.1 (by omega) rfl).2 h1 h2 H locs a ⟨hF.1, hF.2.1, hF.2.2.1, hF.2.2.2.1, hF.2.2.2.2.1.t.t, hF.2.2.2.2.2⟩))
theorem hn_s_cmpgt (hX : hn_X p R s m args meth c D base cI cS b sL xs mi d n0 s0 Mend) {pc : Nat} {ls : hn_Ls} {st : List hn_V} {M : hn_Mem} {x y : Int} {off : Int} (hd : decode (hn_c mi) pc = .ok (.if_icmp .gt off, 3)) (hp : hn_pos pc off = true) (h : hn_br (y < x) (hn_G p l e R s m args below meth c D base cI cS b mi n0 s0 Q r Mend (hn_nx mi (hn_tgt pc off) ls st M)) (hn_G p l e R s m args below meth c D base cI cS b mi n0 s0 Q r Mend (hn_nx mi (pc + 3) ls st M))) : hn_GW p l e R s m args below meth c D base cI cS b mi n0 s0 Q pc ls (.inl y :: .inl x :: st) M := by
  intro h1 h2 H locs a hF
  refine lv_icmp_gt hX.1.1 hX.1.2.1 hd (hn_tgtOf hp) (fun q => ?_) (fun q => ?_)
  · rw [hn_lt hF.2.2.2.2.1.h hF.2.2.2.2.1.t.h] at q
    exact (((h.1 (by omega) rfl).2 h1 h2 H locs a ⟨hF.1, hF.2.1, hF.2.2.1, hF.2.2.2.1, hF.2.2.2.2.1.t.t, hF.2.2.2.2.2⟩))
  · rw [hn_lt hF.2.2.2.2.1.h hF.2.2.2.2.1.t.h] at q
    exact (((h.2 (by omega) rfl).2 h1 h2 H locs a ⟨hF.1, hF.2.1, hF.2.2.1, hF.2.2.2.1, hF.2.2.2.2.1.t.t, hF.2.2.2.2.2⟩))
theorem hn_s_cmple (hX : hn_X p R s m args meth c D base cI cS b sL xs mi d n0 s0 Mend) {pc : Nat} {ls : hn_Ls} {st : List hn_V} {M : hn_Mem} {x y : Int} {off : Int} (hd : decode (hn_c mi) pc = .ok (.if_icmp .le off, 3)) (hp : hn_pos pc off = true) (h : hn_br (y < x) (hn_G p l e R s m args below meth c D base cI cS b mi n0 s0 Q r Mend (hn_nx mi (pc + 3) ls st M)) (hn_G p l e R s m args below meth c D base cI cS b mi n0 s0 Q r Mend (hn_nx mi (hn_tgt pc off) ls st M))) : hn_GW p l e R s m args below meth c D base cI cS b mi n0 s0 Q pc ls (.inl y :: .inl x :: st) M := by
  intro h1 h2 H locs a hF
  refine lv_icmp_le hX.1.1 hX.1.2.1 hd (hn_tgtOf hp) (fun q => ?_) (fun q => ?_)
  · rw [hn_le hF.2.2.2.2.1.t.h hF.2.2.2.2.1.h] at q
    exact (((h.2 (by omega) rfl).2 h1 h2 H locs a ⟨hF.1, hF.2.1, hF.2.2.1, hF.2.2.2.1, hF.2.2.2.2.1.t.t, hF.2.2.2.2.2⟩))
  · rw [hn_le hF.2.2.2.2.1.t.h hF.2.2.2.2.1.h] at q
    exact (((h.1 (by omega) rfl).2 h1 h2 H locs a ⟨hF.1, hF.2.1, hF.2.2.1, hF.2.2.2.1, hF.2.2.2.2.1.t.t, hF.2.2.2.2.2⟩))
end HNG
